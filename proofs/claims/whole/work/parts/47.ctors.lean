theorem ka_i {D : va_G} {cl : List vw_C} {tys : List (ClassId × FieldType)} {U : State} (hK : va_K D cl tys U) (i j : Nat) {a b : ClassId} (hi : tys[i]? = some (a, .int)) (hj : tys[j]? = some (b, .int)) : a = b := by
  have h1 : U.vm.findClass ("[" ++ FieldType.int.toString) = some a := (hK.2 i _ hi).2
  have h2 : U.vm.findClass ("[" ++ FieldType.int.toString) = some b := (hK.2 j _ hj).2
  exact Option.some.inj (h1.symm.trans h2)
theorem ka_b {D : va_G} {cl : List vw_C} {tys : List (ClassId × FieldType)} {U : State} (hK : va_K D cl tys U) (i j : Nat) {a b : ClassId} (hi : tys[i]? = some (a, .byte)) (hj : tys[j]? = some (b, .byte)) : a = b := by
  have h1 : U.vm.findClass ("[" ++ FieldType.byte.toString) = some a := (hK.2 i _ hi).2
  have h2 : U.vm.findClass ("[" ++ FieldType.byte.toString) = some b := (hK.2 j _ hj).2
  exact Option.some.inj (h1.symm.trans h2)
theorem ka_j {D : va_G} {cl : List vw_C} {tys : List (ClassId × FieldType)} {U : State} (hK : va_K D cl tys U) (i j : Nat) {a b : ClassId} (hi : tys[i]? = some (a, .long)) (hj : tys[j]? = some (b, .long)) : a = b := by
  have h1 : U.vm.findClass ("[" ++ FieldType.long.toString) = some a := (hK.2 i _ hi).2
  have h2 : U.vm.findClass ("[" ++ FieldType.long.toString) = some b := (hK.2 j _ hj).2
  exact Option.some.inj (h1.symm.trans h2)
/-- the digest as it is made -/
abbrev dgw (h : Nat) (q1 q2 q3 : Nat) (cB cI : ClassId) : va_W := [(h, .inr (0, [.ref q1, .ref q2, .ref q3, .int (nI 0)])), (q1, .inl (cB, 192, .inl (fun _ => 0))), (q2, .inl (cI, 64, .inl (fun _ => 0))), (q3, .inl (cI, 8, .inl (fun _ => 0)))]
set_option maxHeartbeats 4000000 in
set_option maxRecDepth 100000 in
theorem c_D_init (l : Launch) (D : va_G) (A : Nat → Prop) (h0 sz : Nat) (hA : ∀ z, sz ≤ z → A z) : Met l yX0_init wsX0_init { frames := 1, cells := 3, slots := 264, locals := 12 } (va_Pc [.ref h0] (fun U => U.heap.size = sz ∧ va_P D vwCl [(h0, .inr (0, [.null, .null, .null, .int 0]))] U.heap ∧ va_K D vwCl [] U ∧ va_D A [(h0, .inr (0, [.null, .null, .null, .int 0]))])) (va_Qv (fun _ : Nat × Nat × Nat × ClassId × ClassId => True) (fun u t => va_P D vwCl (dgw h0 u.1 u.2.1 u.2.2.1 u.2.2.2.1 u.2.2.2.2) t.heap ∧ va_K D vwCl [(u.2.2.2.1, .byte), (u.2.2.2.2, .int)] t ∧ va_D A (dgw h0 u.1 u.2.1 u.2.2.1 u.2.2.2.1 u.2.2.2.2)) A) 3 264 A := by
  refine Met.ofW (cc := cX0_init) (maxL := 1) (ret := none) (by decide) rfl ?_
  intro p e s m args below meth c s₁ B hml hv
  obtain ⟨rfl, hsz, hP, hK, hD⟩ := hv
  have hx := B.exec
  have hb := B.bytes
  have hr := B.returns
  have hts := atoms_spec (ws := wsX0_init) B.pre
  have hown : s.vm.findClass RX0 = some m.cls := findClass_of_methodNamed B.named
  have hlocks := B.notSynchronized
  have hin : meth.name = "<init>" := (name_of_methodNamed B.named B.method).1
  have hA2 : ∀ q : Nat, s.heap.size ≤ q → A q := fun q h => hA q (by rw [← hsz]; exact h)
  have hS : va_S A s.heap s.heap [] := va_S.rf
  have hin0 : ∀ w ∈ u_ws RX0 TX0 4, w ∈ wsX0_init := by decide +kernel
  have hl := lv_entry ([.ref h0]) (n := 1) (Nat.le_of_ble_eq_true rfl)
  rw [lg_entry_eq]
  generalize (lg_sl ([.ref h0]) ++ List.replicate (1 - (lg_sl ([.ref h0])).length) Slot.unset).toArray = ls at hl ⊢
  have hl : lv_has ls 1 [(0, .ref h0)] := hl
  refine lv_aload_n hx hb dX0_init_0 rfl (lv_at hl 0 rfl) ?_
  refine W.objInit hx hb hown (hts (.methodLink RX0 3 objectInit) (by decide +kernel)) (hts (.instanceMethod objectInit) (by decide +kernel)) (hts _ (List.mem_cons_of_mem _ (List.mem_append_left _ (List.mem_of_getElem? (i := 2) rfl)))) rfl (by rw [hml]; exact hl.1) rfl dX0_init_1 (Nat.le_of_ble_eq_true rfl) (Nat.le_of_ble_eq_true rfl) ?_
  refine W.eq (g2 := F0 m 4 ls []) rfl ?_
  refine lv_aload_n hx hb dX0_init_4 rfl (lv_at hl 0 rfl) ?_
  refine lv_sipush (v := nI 192) hx hb dX0_init_5 (by decide) ?_
  refine va_newa (atype := .byte) (ty := .byte) (N' := 192) (a0 := (192, .inl (fun _ => 0))) hx hb (hts (.arrayClass .byte) (by decide +kernel)) rfl hK hP hD hS hA2 (fun _ => rfl) (by decide) (by decide) (by decide) (Nat.le_of_ble_eq_true rfl) (Nat.le_of_ble_eq_true rfl) dX0_init_8 (fun a1 k1 H hK hP hD hS => ?_)
  have hP : va_P D vwCl [(h0, .inr (0, [.null, .null, .null, .int 0])), (a1, .inl (k1, 192, .inl (fun _ => 0)))] H := hP
  have hD : va_D A [(h0, .inr (0, [.null, .null, .null, .int 0])), (a1, .inl (k1, 192, .inl (fun _ => 0)))] := hD
  have hK : va_K D vwCl [(k1, .byte)] s := hK
  refine va_putF (D := D) (ci := 0) (v := .ref a1) (ty := .array .byte) (C := RX0) (T := TX0) (N := 4) hx hb hts hin0 tyX0 tyX0_ok nmX0 hown hK hP hD hS 0 rfl rfl 0 (by decide) (hts (.fieldLink RX0 11 "RootDesk$Digest" "message" "[B") (by decide +kernel)) (fun _ h9 => h9) rfl hin rfl (by decide +kernel) rfl rfl (Nat.le_of_ble_eq_true rfl) dX0_init_10 (fun H locs hP hD hS => ?_)
  have hP : va_P D vwCl [(h0, .inr (0, [.ref a1, .null, .null, .int 0])), (a1, .inl (k1, 192, .inl (fun _ => 0)))] H := hP
  have hD : va_D A [(h0, .inr (0, [.ref a1, .null, .null, .int 0])), (a1, .inl (k1, 192, .inl (fun _ => 0)))] := hD
  refine lv_aload_n hx hb dX0_init_13 rfl (lv_at hl 0 rfl) ?_
  refine lv_bipush (v := nI 64) hx hb dX0_init_14 (by decide) ?_
  refine va_newa (atype := .int) (ty := .int) (N' := 64) (a0 := (64, .inl (fun _ => 0))) hx hb (hts (.arrayClass .int) (by decide +kernel)) rfl hK hP hD hS hA2 (fun _ => rfl) (by decide) (by decide) (by decide) (Nat.le_of_ble_eq_true rfl) (Nat.le_of_ble_eq_true rfl) dX0_init_16 (fun a2 k2 H hK hP hD hS => ?_)
  have hP : va_P D vwCl [(h0, .inr (0, [.ref a1, .null, .null, .int 0])), (a1, .inl (k1, 192, .inl (fun _ => 0))), (a2, .inl (k2, 64, .inl (fun _ => 0)))] H := hP
  have hD : va_D A [(h0, .inr (0, [.ref a1, .null, .null, .int 0])), (a1, .inl (k1, 192, .inl (fun _ => 0))), (a2, .inl (k2, 64, .inl (fun _ => 0)))] := hD
  have hK : va_K D vwCl [(k1, .byte), (k2, .int)] s := hK
  refine va_putF (D := D) (ci := 0) (v := .ref a2) (ty := .array .int) (C := RX0) (T := TX0) (N := 4) hx hb hts hin0 tyX0 tyX0_ok nmX0 hown hK hP hD hS 0 rfl rfl 1 (by decide) (hts (.fieldLink RX0 15 "RootDesk$Digest" "schedule" "[I") (by decide +kernel)) (fun _ h9 => h9) rfl hin rfl (by decide +kernel) rfl rfl (Nat.le_of_ble_eq_true rfl) dX0_init_18 (fun H locs hP hD hS => ?_)
  have hP : va_P D vwCl [(h0, .inr (0, [.ref a1, .ref a2, .null, .int 0])), (a1, .inl (k1, 192, .inl (fun _ => 0))), (a2, .inl (k2, 64, .inl (fun _ => 0)))] H := hP
  have hD : va_D A [(h0, .inr (0, [.ref a1, .ref a2, .null, .int 0])), (a1, .inl (k1, 192, .inl (fun _ => 0))), (a2, .inl (k2, 64, .inl (fun _ => 0)))] := hD
  refine lv_aload_n hx hb dX0_init_21 rfl (lv_at hl 0 rfl) ?_
  refine lv_bipush (v := nI 8) hx hb dX0_init_22 (by decide) ?_
  refine va_newa (atype := .int) (ty := .int) (N' := 8) (a0 := (8, .inl (fun _ => 0))) hx hb (hts (.arrayClass .int) (by decide +kernel)) rfl hK hP hD hS hA2 (fun _ => rfl) (by decide) (by decide) (by decide) (Nat.le_of_ble_eq_true rfl) (Nat.le_of_ble_eq_true rfl) dX0_init_24 (fun a3 k3 H hK hP hD hS => ?_)
  have hP : va_P D vwCl [(h0, .inr (0, [.ref a1, .ref a2, .null, .int 0])), (a1, .inl (k1, 192, .inl (fun _ => 0))), (a2, .inl (k2, 64, .inl (fun _ => 0))), (a3, .inl (k3, 8, .inl (fun _ => 0)))] H := hP
  have hD : va_D A [(h0, .inr (0, [.ref a1, .ref a2, .null, .int 0])), (a1, .inl (k1, 192, .inl (fun _ => 0))), (a2, .inl (k2, 64, .inl (fun _ => 0))), (a3, .inl (k3, 8, .inl (fun _ => 0)))] := hD
  have hK : va_K D vwCl [(k1, .byte), (k2, .int), (k3, .int)] s := hK
  refine va_putF (D := D) (ci := 0) (v := .ref a3) (ty := .array .int) (C := RX0) (T := TX0) (N := 4) hx hb hts hin0 tyX0 tyX0_ok nmX0 hown hK hP hD hS 0 rfl rfl 2 (by decide) (hts (.fieldLink RX0 19 "RootDesk$Digest" "state" "[I") (by decide +kernel)) (fun _ h9 => h9) rfl hin rfl (by decide +kernel) rfl rfl (Nat.le_of_ble_eq_true rfl) dX0_init_26 (fun H locs hP hD hS => ?_)
  have hP : va_P D vwCl [(h0, .inr (0, [.ref a1, .ref a2, .ref a3, .int 0])), (a1, .inl (k1, 192, .inl (fun _ => 0))), (a2, .inl (k2, 64, .inl (fun _ => 0))), (a3, .inl (k3, 8, .inl (fun _ => 0)))] H := hP
  have hD : va_D A [(h0, .inr (0, [.ref a1, .ref a2, .ref a3, .int 0])), (a1, .inl (k1, 192, .inl (fun _ => 0))), (a2, .inl (k2, 64, .inl (fun _ => 0))), (a3, .inl (k3, 8, .inl (fun _ => 0)))] := hD
  refine lv_aload_n hx hb dX0_init_29 rfl (lv_at hl 0 rfl) ?_
  refine lv_iconst (v := nI 0) hx hb dX0_init_30 (by decide) ?_
  refine va_put (D := D) (ci := 0) (v := .int (nI 0)) (ty := .int) (C := RX0) (T := TX0) (N := 4) hx hb hts hin0 tyX0 tyX0_ok nmX0 hown hK hP hD hS 0 rfl rfl 3 (by decide) (hts (.fieldLink RX0 22 "RootDesk$Digest" "length" "I") (by decide +kernel)) (fun _ h9 => h9) rfl (by decide +kernel) rfl rfl (Nat.le_of_ble_eq_true rfl) dX0_init_31 (fun H locs hP hD hS => ?_)
  have hP : va_P D vwCl [(h0, .inr (0, [.ref a1, .ref a2, .ref a3, .int (nI 0)])), (a1, .inl (k1, 192, .inl (fun _ => 0))), (a2, .inl (k2, 64, .inl (fun _ => 0))), (a3, .inl (k3, 8, .inl (fun _ => 0)))] H := hP
  have hD : va_D A [(h0, .inr (0, [.ref a1, .ref a2, .ref a3, .int (nI 0)])), (a1, .inl (k1, 192, .inl (fun _ => 0))), (a2, .inl (k2, 64, .inl (fun _ => 0))), (a3, .inl (k3, 8, .inl (fun _ => 0)))] := hD
  obtain rfl : k3 = k2 := ka_i hK 2 1 rfl rfl
  have hK9 := hK.sub (tys' := [(k1, .byte), (k3, .int)]) [0, 1] rfl
  exact W.vret hx hb hr (fun t ht hW => ⟨⟨(a1, a2, a3, k1, k3), rfl, trivial, by rw [ht]; exact hP, va_K.moved hW.alike hK9, hD⟩, hS.F ht⟩) hS.2.2 dX0_init_34
/-- the addresses of the class's cells and tables -/
abbrev mkq (h0 a1 a2 a3 a4 a5 a6 a7 a8 a9 a10 : Nat) : Nat → Nat := fun k => match k with
  | 0 => h0
  | 1 => a1
  | 2 => a2
  | 3 => a3
  | 4 => a4
  | 5 => a5
  | 6 => a6
  | 7 => a7
  | 8 => a8
  | 9 => a9
  | _ => a10
abbrev dkw (h0 : Nat) (u : (Nat × Nat × Nat × Nat × Nat × Nat × Nat) × ClassId × ClassId) (x y z : Nat) : va_W := wk (mkq h0 u.1.1 u.1.2.1 u.1.2.2.1 u.1.2.2.2.1 u.1.2.2.2.2.1 u.1.2.2.2.2.2.1 u.1.2.2.2.2.2.2 x y z) u.2.1 u.2.2 0 0 0 0 (fun _ => 0) (fun _ => 0) (fun _ => 0) (fun _ => 0) (fun _ => 0) (fun _ => 0)
set_option maxHeartbeats 4000000 in
set_option maxRecDepth 100000 in
theorem c_init (l : Launch) (D : va_G) (A : Nat → Prop) (x y z h0 sz : Nat) (hA : ∀ z, sz ≤ z → A z) : Met l yX1_init wsX1_init { frames := 2, cells := 7, slots := 2142, locals := 32 } (va_Pc [.ref h0] (fun U => U.heap.size = sz ∧ va_P D vwCl [(h0, .inr (1, [.null, .int 0, .null, .int 0, .int 0, .null, .null]))] U.heap ∧ va_K D vwCl [] U ∧ va_D A [(h0, .inr (1, [.null, .int 0, .null, .int 0, .int 0, .null, .null]))])) (va_Qv (fun _ : (Nat × Nat × Nat × Nat × Nat × Nat × Nat) × ClassId × ClassId => True) (fun u t => va_P D vwCl (dkw h0 u x y z) t.heap ∧ va_K D vwCl [(u.2.1, .byte), (u.2.2, .int)] t ∧ va_D A (dkw h0 u x y z)) A) 7 2142 A := by
  refine Met.ofW (cc := cX1_init) (maxL := 1) (ret := none) (by decide) rfl ?_
  intro p e s m args below meth c s₁ B hml hv
  obtain ⟨rfl, hsz, hP, hK, hD⟩ := hv
  have hx := B.exec
  have hb := B.bytes
  have hr := B.returns
  have hts := atoms_spec (ws := wsX1_init) B.pre
  have hown : s.vm.findClass RX1 = some m.cls := findClass_of_methodNamed B.named
  have hlocks := B.notSynchronized
  have hin : meth.name = "<init>" := (name_of_methodNamed B.named B.method).1
  have hA2 : ∀ q : Nat, s.heap.size ≤ q → A q := fun q h => hA q (by rw [← hsz]; exact h)
  have hS : va_S A s.heap s.heap [] := va_S.rf
  have hin0 : ∀ w ∈ u_ws RX1 TX1 7, w ∈ wsX1_init := by decide +kernel
  have hl := lv_entry ([.ref h0]) (n := 1) (Nat.le_of_ble_eq_true rfl)
  rw [lg_entry_eq]
  generalize (lg_sl ([.ref h0]) ++ List.replicate (1 - (lg_sl ([.ref h0])).length) Slot.unset).toArray = ls at hl ⊢
  have hl : lv_has ls 1 [(0, .ref h0)] := hl
  refine lv_aload_n hx hb dX1_init_0 rfl (lv_at hl 0 rfl) ?_
  refine W.objInit hx hb hown (hts (.methodLink RX1 1 objectInit) (by decide +kernel)) (hts (.instanceMethod objectInit) (by decide +kernel)) (hts _ (List.mem_cons_of_mem _ (List.mem_append_left _ (List.mem_append_left _ (List.mem_of_getElem? (i := 2) rfl))))) rfl (by rw [hml]; exact hl.1) rfl dX1_init_1 (Nat.le_of_ble_eq_true rfl) (Nat.le_of_ble_eq_true rfl) ?_
  refine W.eq (g2 := F0 m 4 ls []) rfl ?_
  refine lv_aload_n hx hb dX1_init_4 rfl (lv_at hl 0 rfl) ?_
  refine lv_sipush (v := nI 150) hx hb dX1_init_5 (by decide) ?_
  refine va_newa (atype := .byte) (ty := .byte) (N' := 150) (a0 := (150, .inl (fun _ => 0))) hx hb (hts (.arrayClass .byte) (by decide +kernel)) rfl hK hP hD hS hA2 (fun _ => rfl) (by decide) (by decide) (by decide) (Nat.le_of_ble_eq_true rfl) (Nat.le_of_ble_eq_true rfl) dX1_init_8 (fun a1 k1 H hK hP hD hS => ?_)
  have hP : va_P D vwCl [(h0, .inr (1, [.null, .int 0, .null, .int 0, .int 0, .null, .null])), (a1, .inl (k1, 150, .inl (fun _ => 0)))] H := hP
  have hD : va_D A [(h0, .inr (1, [.null, .int 0, .null, .int 0, .int 0, .null, .null])), (a1, .inl (k1, 150, .inl (fun _ => 0)))] := hD
  have hK : va_K D vwCl [(k1, .byte)] s := hK
  refine va_putF (D := D) (ci := 1) (v := .ref a1) (ty := .array .byte) (C := RX1) (T := TX1) (N := 7) hx hb hts hin0 tyX1 tyX1_ok nmX1 hown hK hP hD hS 0 rfl rfl 0 (by decide) (hts (.fieldLink RX1 9 "RootDesk" "tape" "[B") (by decide +kernel)) (fun _ h9 => h9) rfl hin rfl (by decide +kernel) rfl rfl (Nat.le_of_ble_eq_true rfl) dX1_init_10 (fun H locs hP hD hS => ?_)
  have hP : va_P D vwCl [(h0, .inr (1, [.ref a1, .int 0, .null, .int 0, .int 0, .null, .null])), (a1, .inl (k1, 150, .inl (fun _ => 0)))] H := hP
  have hD : va_D A [(h0, .inr (1, [.ref a1, .int 0, .null, .int 0, .int 0, .null, .null])), (a1, .inl (k1, 150, .inl (fun _ => 0)))] := hD
  refine lv_aload_n hx hb dX1_init_13 rfl (lv_at hl 0 rfl) ?_
  refine lv_bipush (v := nI 100) hx hb dX1_init_14 (by decide) ?_
  refine va_newa (atype := .int) (ty := .int) (N' := 100) (a0 := (100, .inl (fun _ => 0))) hx hb (hts (.arrayClass .int) (by decide +kernel)) rfl hK hP hD hS hA2 (fun _ => rfl) (by decide) (by decide) (by decide) (Nat.le_of_ble_eq_true rfl) (Nat.le_of_ble_eq_true rfl) dX1_init_16 (fun a2 k2 H hK hP hD hS => ?_)
  have hP : va_P D vwCl [(h0, .inr (1, [.ref a1, .int 0, .null, .int 0, .int 0, .null, .null])), (a1, .inl (k1, 150, .inl (fun _ => 0))), (a2, .inl (k2, 100, .inl (fun _ => 0)))] H := hP
  have hD : va_D A [(h0, .inr (1, [.ref a1, .int 0, .null, .int 0, .int 0, .null, .null])), (a1, .inl (k1, 150, .inl (fun _ => 0))), (a2, .inl (k2, 100, .inl (fun _ => 0)))] := hD
  have hK : va_K D vwCl [(k1, .byte), (k2, .int)] s := hK
  refine va_putF (D := D) (ci := 1) (v := .ref a2) (ty := .array .int) (C := RX1) (T := TX1) (N := 7) hx hb hts hin0 tyX1 tyX1_ok nmX1 hown hK hP hD hS 0 rfl rfl 2 (by decide) (hts (.fieldLink RX1 13 "RootDesk" "leafLengths" "[I") (by decide +kernel)) (fun _ h9 => h9) rfl hin rfl (by decide +kernel) rfl rfl (Nat.le_of_ble_eq_true rfl) dX1_init_18 (fun H locs hP hD hS => ?_)
  have hP : va_P D vwCl [(h0, .inr (1, [.ref a1, .int 0, .ref a2, .int 0, .int 0, .null, .null])), (a1, .inl (k1, 150, .inl (fun _ => 0))), (a2, .inl (k2, 100, .inl (fun _ => 0)))] H := hP
  have hD : va_D A [(h0, .inr (1, [.ref a1, .int 0, .ref a2, .int 0, .int 0, .null, .null])), (a1, .inl (k1, 150, .inl (fun _ => 0))), (a2, .inl (k2, 100, .inl (fun _ => 0)))] := hD
  refine lv_aload_n hx hb dX1_init_21 rfl (lv_at hl 0 rfl) ?_
  refine lv_sipush (v := nI 1624) hx hb dX1_init_22 (by decide) ?_
  refine va_newa (atype := .int) (ty := .int) (N' := 1624) (a0 := (1624, .inl (fun _ => 0))) hx hb (hts (.arrayClass .int) (by decide +kernel)) rfl hK hP hD hS hA2 (fun _ => rfl) (by decide) (by decide) (by decide) (Nat.le_of_ble_eq_true rfl) (Nat.le_of_ble_eq_true rfl) dX1_init_25 (fun a3 k3 H hK hP hD hS => ?_)
  have hP : va_P D vwCl [(h0, .inr (1, [.ref a1, .int 0, .ref a2, .int 0, .int 0, .null, .null])), (a1, .inl (k1, 150, .inl (fun _ => 0))), (a2, .inl (k2, 100, .inl (fun _ => 0))), (a3, .inl (k3, 1624, .inl (fun _ => 0)))] H := hP
  have hD : va_D A [(h0, .inr (1, [.ref a1, .int 0, .ref a2, .int 0, .int 0, .null, .null])), (a1, .inl (k1, 150, .inl (fun _ => 0))), (a2, .inl (k2, 100, .inl (fun _ => 0))), (a3, .inl (k3, 1624, .inl (fun _ => 0)))] := hD
  have hK : va_K D vwCl [(k1, .byte), (k2, .int), (k3, .int)] s := hK
  refine va_putF (D := D) (ci := 1) (v := .ref a3) (ty := .array .int) (C := RX1) (T := TX1) (N := 7) hx hb hts hin0 tyX1 tyX1_ok nmX1 hown hK hP hD hS 0 rfl rfl 5 (by decide) (hts (.fieldLink RX1 17 "RootDesk" "ids" "[I") (by decide +kernel)) (fun _ h9 => h9) rfl hin rfl (by decide +kernel) rfl rfl (Nat.le_of_ble_eq_true rfl) dX1_init_27 (fun H locs hP hD hS => ?_)
  have hP : va_P D vwCl [(h0, .inr (1, [.ref a1, .int 0, .ref a2, .int 0, .int 0, .ref a3, .null])), (a1, .inl (k1, 150, .inl (fun _ => 0))), (a2, .inl (k2, 100, .inl (fun _ => 0))), (a3, .inl (k3, 1624, .inl (fun _ => 0)))] H := hP
  have hD : va_D A [(h0, .inr (1, [.ref a1, .int 0, .ref a2, .int 0, .int 0, .ref a3, .null])), (a1, .inl (k1, 150, .inl (fun _ => 0))), (a2, .inl (k2, 100, .inl (fun _ => 0))), (a3, .inl (k3, 1624, .inl (fun _ => 0)))] := hD
  refine lv_aload_n hx hb dX1_init_30 rfl (lv_at hl 0 rfl) ?_
  refine va_new (ci := 0) (fs := [.null, .null, .null, .int 0]) (C := RX0) (T := TX0) (N := 4) hx hb hts (by decide +kernel) tyX0 tyX0_ok hown (hts (.classLink RX1 20 RX0) (by decide +kernel)) (hts (.instantiable RX0 4) (by decide +kernel)) (hts (.initialized RX0) (by decide +kernel)) hK hP hD hS hA2 rfl (fun j hj => by rcases (show j = 0 ∨ j = 1 ∨ j = 2 ∨ j = 3 by omega) with rfl | rfl | rfl | rfl <;> rfl) (Nat.le_of_ble_eq_true rfl) (Nat.le_of_ble_eq_true rfl) dX1_init_31 (fun dg H hP hD hS => ?_)
  have hP : va_P D vwCl [(h0, .inr (1, [.ref a1, .int 0, .ref a2, .int 0, .int 0, .ref a3, .null])), (a1, .inl (k1, 150, .inl (fun _ => 0))), (a2, .inl (k2, 100, .inl (fun _ => 0))), (a3, .inl (k3, 1624, .inl (fun _ => 0))), (dg, .inr (0, [.null, .null, .null, .int 0]))] H := hP
  have hD : va_D A [(h0, .inr (1, [.ref a1, .int 0, .ref a2, .int 0, .int 0, .ref a3, .null])), (a1, .inl (k1, 150, .inl (fun _ => 0))), (a2, .inl (k2, 100, .inl (fun _ => 0))), (a3, .inl (k3, 1624, .inl (fun _ => 0))), (dg, .inr (0, [.null, .null, .null, .int 0]))] := hD
  refine lv_dup hx hb dX1_init_34 rfl ?_
  have hPc := hP.sub (ws' := [(dg, .inr (0, [.null, .null, .null, .int 0]))]) [4] rfl
  have hDc := hD.sub (ws' := [(dg, .inr (0, [.null, .null, .null, .int 0]))]) [4] (by decide) rfl
  have hKc := hK.sub (tys' := []) [] rfl
  have hFc := va_free (wc := [(dg, .inr (0, [.null, .null, .null, .int 0]))]) hD hS hA2 [4] rfl
  refine va_callv (va_runI (As := []) (rest := [.ref dg, .ref h0]) ⟨hx, hb, hml, hown, hts⟩ (c_D_init l D (va_A [(dg, .inr (0, [.null, .null, .null, .int 0]))] H.size) dg H.size (fun z h => Or.inr h)) (cwI 0 hts gX1_init_X0_init rfl rfl rfl (hts (.initialized RX0) (by decide +kernel)) (hts (.methodLink RX1 22 yX0_init) (by decide +kernel)) (hts (.instanceMethod yX0_init) (by decide +kernel)) rfl (by decide +kernel) ⟨Nat.le_of_ble_eq_true rfl, Nat.le_of_ble_eq_true rfl⟩) ⟨fun a U g mk q => by obtain ⟨q0, q1, qP, qK, qD⟩ := q; exact ⟨q0, q1, qP, va_K.moved (u := U) (U := U.calling g mk a) (Vm.Alike.refl U.vm) qK, qD⟩, fun U hU hW => ⟨rfl, by rw [hU], by rw [hU]; exact hPc, va_K.moved hW.alike hKc, hDc.self⟩⟩ rfl rfl hl.1 rfl (lv_room (Nat.le_of_ble_eq_true rfl)) dX1_init_35 ⟨Nat.le_of_ble_eq_true rfl, Nat.le_of_ble_eq_true rfl⟩) hS (fun q _ h => hFc q h) hFc (fun u t H1 locs ht hvm hw hB hz1 hk1 hS => ?_)
  obtain ⟨a5, a6, a7, k5, k6⟩ := u
  obtain ⟨hP1, hK1, hD1⟩ := hB
  rw [ht] at hP1
  have hK1 := va_K.moved hvm.symm hK1
  obtain ⟨hP, hD⟩ := va_join (wr := [(h0, .inr (1, [.ref a1, .int 0, .ref a2, .int 0, .int 0, .ref a3, .null])), (a1, .inl (k1, 150, .inl (fun _ => 0))), (a2, .inl (k2, 100, .inl (fun _ => 0))), (a3, .inl (k3, 1624, .inl (fun _ => 0)))]) (w1 := dgw dg a5 a6 a7 k5 k6) hP hD [4] [0, 1, 2, 3] rfl rfl (by decide) (by decide) hk1 hFc hP1 hD1
  have hK := hK.app hK1
  generalize H1 = H at hP hS ⊢
  have hP : va_P D vwCl [(h0, .inr (1, [.ref a1, .int 0, .ref a2, .int 0, .int 0, .ref a3, .null])), (a1, .inl (k1, 150, .inl (fun _ => 0))), (a2, .inl (k2, 100, .inl (fun _ => 0))), (a3, .inl (k3, 1624, .inl (fun _ => 0))), (dg, .inr (0, [.ref a5, .ref a6, .ref a7, .int (nI 0)])), (a5, .inl (k5, 192, .inl (fun _ => 0))), (a6, .inl (k6, 64, .inl (fun _ => 0))), (a7, .inl (k6, 8, .inl (fun _ => 0)))] H := hP
  have hD : va_D A [(h0, .inr (1, [.ref a1, .int 0, .ref a2, .int 0, .int 0, .ref a3, .null])), (a1, .inl (k1, 150, .inl (fun _ => 0))), (a2, .inl (k2, 100, .inl (fun _ => 0))), (a3, .inl (k3, 1624, .inl (fun _ => 0))), (dg, .inr (0, [.ref a5, .ref a6, .ref a7, .int (nI 0)])), (a5, .inl (k5, 192, .inl (fun _ => 0))), (a6, .inl (k6, 64, .inl (fun _ => 0))), (a7, .inl (k6, 8, .inl (fun _ => 0)))] := hD
  have hK : va_K D vwCl [(k1, .byte), (k2, .int), (k3, .int), (k5, .byte), (k6, .int)] s := hK
  refine va_putF (D := D) (ci := 1) (v := .ref dg) (ty := .object "RootDesk$Digest") (C := RX1) (T := TX1) (N := 7) hx hb hts hin0 tyX1 tyX1_ok nmX1 hown hK hP hD hS 0 rfl rfl 6 (by decide) (hts (.fieldLink RX1 23 "RootDesk" "digest" "LRootDesk$Digest;") (by decide +kernel)) (fun _ h9 => h9) rfl hin rfl (by decide +kernel) rfl rfl (Nat.le_of_ble_eq_true rfl) dX1_init_38 (fun H locs hP hD hS => ?_)
  have hP : va_P D vwCl [(h0, .inr (1, [.ref a1, .int 0, .ref a2, .int 0, .int 0, .ref a3, .ref dg])), (a1, .inl (k1, 150, .inl (fun _ => 0))), (a2, .inl (k2, 100, .inl (fun _ => 0))), (a3, .inl (k3, 1624, .inl (fun _ => 0))), (dg, .inr (0, [.ref a5, .ref a6, .ref a7, .int (nI 0)])), (a5, .inl (k5, 192, .inl (fun _ => 0))), (a6, .inl (k6, 64, .inl (fun _ => 0))), (a7, .inl (k6, 8, .inl (fun _ => 0)))] H := hP
  have hD : va_D A [(h0, .inr (1, [.ref a1, .int 0, .ref a2, .int 0, .int 0, .ref a3, .ref dg])), (a1, .inl (k1, 150, .inl (fun _ => 0))), (a2, .inl (k2, 100, .inl (fun _ => 0))), (a3, .inl (k3, 1624, .inl (fun _ => 0))), (dg, .inr (0, [.ref a5, .ref a6, .ref a7, .int (nI 0)])), (a5, .inl (k5, 192, .inl (fun _ => 0))), (a6, .inl (k6, 64, .inl (fun _ => 0))), (a7, .inl (k6, 8, .inl (fun _ => 0)))] := hD
  refine lv_aload_n hx hb dX1_init_41 rfl (lv_at hl 0 rfl) ?_
  refine lv_iconst (v := nI 0) hx hb dX1_init_42 (by decide) ?_
  refine va_put (D := D) (ci := 1) (v := .int (nI 0)) (ty := .int) (C := RX1) (T := TX1) (N := 7) hx hb hts hin0 tyX1 tyX1_ok nmX1 hown hK hP hD hS 0 rfl rfl 1 (by decide) (hts (.fieldLink RX1 27 "RootDesk" "tapeLength" "I") (by decide +kernel)) (fun _ h9 => h9) rfl (by decide +kernel) rfl rfl (Nat.le_of_ble_eq_true rfl) dX1_init_43 (fun H locs hP hD hS => ?_)
  have hP : va_P D vwCl [(h0, .inr (1, [.ref a1, .int (nI 0), .ref a2, .int 0, .int 0, .ref a3, .ref dg])), (a1, .inl (k1, 150, .inl (fun _ => 0))), (a2, .inl (k2, 100, .inl (fun _ => 0))), (a3, .inl (k3, 1624, .inl (fun _ => 0))), (dg, .inr (0, [.ref a5, .ref a6, .ref a7, .int (nI 0)])), (a5, .inl (k5, 192, .inl (fun _ => 0))), (a6, .inl (k6, 64, .inl (fun _ => 0))), (a7, .inl (k6, 8, .inl (fun _ => 0)))] H := hP
  have hD : va_D A [(h0, .inr (1, [.ref a1, .int (nI 0), .ref a2, .int 0, .int 0, .ref a3, .ref dg])), (a1, .inl (k1, 150, .inl (fun _ => 0))), (a2, .inl (k2, 100, .inl (fun _ => 0))), (a3, .inl (k3, 1624, .inl (fun _ => 0))), (dg, .inr (0, [.ref a5, .ref a6, .ref a7, .int (nI 0)])), (a5, .inl (k5, 192, .inl (fun _ => 0))), (a6, .inl (k6, 64, .inl (fun _ => 0))), (a7, .inl (k6, 8, .inl (fun _ => 0)))] := hD
  refine lv_aload_n hx hb dX1_init_46 rfl (lv_at hl 0 rfl) ?_
  refine lv_iconst (v := nI 0) hx hb dX1_init_47 (by decide) ?_
  refine va_put (D := D) (ci := 1) (v := .int (nI 0)) (ty := .int) (C := RX1) (T := TX1) (N := 7) hx hb hts hin0 tyX1 tyX1_ok nmX1 hown hK hP hD hS 0 rfl rfl 3 (by decide) (hts (.fieldLink RX1 31 "RootDesk" "leaves" "I") (by decide +kernel)) (fun _ h9 => h9) rfl (by decide +kernel) rfl rfl (Nat.le_of_ble_eq_true rfl) dX1_init_48 (fun H locs hP hD hS => ?_)
  have hP : va_P D vwCl [(h0, .inr (1, [.ref a1, .int (nI 0), .ref a2, .int (nI 0), .int 0, .ref a3, .ref dg])), (a1, .inl (k1, 150, .inl (fun _ => 0))), (a2, .inl (k2, 100, .inl (fun _ => 0))), (a3, .inl (k3, 1624, .inl (fun _ => 0))), (dg, .inr (0, [.ref a5, .ref a6, .ref a7, .int (nI 0)])), (a5, .inl (k5, 192, .inl (fun _ => 0))), (a6, .inl (k6, 64, .inl (fun _ => 0))), (a7, .inl (k6, 8, .inl (fun _ => 0)))] H := hP
  have hD : va_D A [(h0, .inr (1, [.ref a1, .int (nI 0), .ref a2, .int (nI 0), .int 0, .ref a3, .ref dg])), (a1, .inl (k1, 150, .inl (fun _ => 0))), (a2, .inl (k2, 100, .inl (fun _ => 0))), (a3, .inl (k3, 1624, .inl (fun _ => 0))), (dg, .inr (0, [.ref a5, .ref a6, .ref a7, .int (nI 0)])), (a5, .inl (k5, 192, .inl (fun _ => 0))), (a6, .inl (k6, 64, .inl (fun _ => 0))), (a7, .inl (k6, 8, .inl (fun _ => 0)))] := hD
  refine lv_aload_n hx hb dX1_init_51 rfl (lv_at hl 0 rfl) ?_
  refine lv_iconst (v := nI 0) hx hb dX1_init_52 (by decide) ?_
  refine va_put (D := D) (ci := 1) (v := .int (nI 0)) (ty := .int) (C := RX1) (T := TX1) (N := 7) hx hb hts hin0 tyX1 tyX1_ok nmX1 hown hK hP hD hS 0 rfl rfl 4 (by decide) (hts (.fieldLink RX1 34 "RootDesk" "leafBytes" "I") (by decide +kernel)) (fun _ h9 => h9) rfl (by decide +kernel) rfl rfl (Nat.le_of_ble_eq_true rfl) dX1_init_53 (fun H locs hP hD hS => ?_)
  have hP : va_P D vwCl [(h0, .inr (1, [.ref a1, .int (nI 0), .ref a2, .int (nI 0), .int (nI 0), .ref a3, .ref dg])), (a1, .inl (k1, 150, .inl (fun _ => 0))), (a2, .inl (k2, 100, .inl (fun _ => 0))), (a3, .inl (k3, 1624, .inl (fun _ => 0))), (dg, .inr (0, [.ref a5, .ref a6, .ref a7, .int (nI 0)])), (a5, .inl (k5, 192, .inl (fun _ => 0))), (a6, .inl (k6, 64, .inl (fun _ => 0))), (a7, .inl (k6, 8, .inl (fun _ => 0)))] H := hP
  have hD : va_D A [(h0, .inr (1, [.ref a1, .int (nI 0), .ref a2, .int (nI 0), .int (nI 0), .ref a3, .ref dg])), (a1, .inl (k1, 150, .inl (fun _ => 0))), (a2, .inl (k2, 100, .inl (fun _ => 0))), (a3, .inl (k3, 1624, .inl (fun _ => 0))), (dg, .inr (0, [.ref a5, .ref a6, .ref a7, .int (nI 0)])), (a5, .inl (k5, 192, .inl (fun _ => 0))), (a6, .inl (k6, 64, .inl (fun _ => 0))), (a7, .inl (k6, 8, .inl (fun _ => 0)))] := hD
  obtain rfl : k5 = k1 := ka_b hK 3 0 rfl rfl
  obtain rfl : k3 = k2 := ka_i hK 2 1 rfl rfl
  obtain rfl : k6 = k3 := ka_i hK 4 1 rfl rfl
  have hK9 := hK.sub (tys' := [(k5, .byte), (k6, .int)]) [0, 1] rfl
  refine W.widen (k := 7) (n := 2142) (Nat.le_of_ble_eq_true rfl) (Nat.le_of_ble_eq_true rfl) ?_
  exact W.vret hx hb hr (fun t ht hW => ⟨⟨((a1, a2, a3, dg, a5, a6, a7), k5, k6), rfl, trivial, by rw [ht]; exact hP, va_K.moved hW.alike hK9, hD⟩, hS.F ht⟩) hS.2.2 dX1_init_56
abbrev mdw (h0 : Nat) (u : (Nat × Nat × Nat × Nat × Nat × Nat × Nat × Nat × Nat × Nat) × ClassId × ClassId × (Nat → Int32) × (Nat → Int32)) : va_W := wm (mkq h0 u.1.1 u.1.2.1 u.1.2.2.1 u.1.2.2.2.1 u.1.2.2.2.2.1 u.1.2.2.2.2.2.1 u.1.2.2.2.2.2.2.1 u.1.2.2.2.2.2.2.2.1 u.1.2.2.2.2.2.2.2.2.1 u.1.2.2.2.2.2.2.2.2.2) u.2.1 u.2.2.1 0 0 0 0 0 0 (fun _ => 0) (fun _ => 0) (fun _ => 0) u.2.2.2.1 u.2.2.2.2 (fun _ => 0) (fun _ => 0) (fun _ => 0) (fun _ => 0) (fun _ => 0)
set_option maxHeartbeats 4000000 in
set_option maxRecDepth 100000 in
theorem m_init (l : Launch) (D : va_G) (A : Nat → Prop) (h0 sz : Nat) (hA : ∀ z, sz ≤ z → A z) : Met l yX2_init wsX2_init { frames := 3, cells := 10, slots := 16310, locals := 99 } (va_Pc [.ref h0] (fun U => U.heap.size = sz ∧ va_P D vwCl [(h0, .inr (2, [.null, .int 0, .null, .null, .null, .null, .null, .int 0, .int 0, .null, .null, .null, .int 0, .int 0, .int 0, .null]))] U.heap ∧ va_K D vwCl [] U ∧ va_D A [(h0, .inr (2, [.null, .int 0, .null, .null, .null, .null, .null, .int 0, .int 0, .null, .null, .null, .int 0, .int 0, .int 0, .null]))])) (va_Qv (fun u : (Nat × Nat × Nat × Nat × Nat × Nat × Nat × Nat × Nat × Nat) × ClassId × ClassId × (Nat → Int32) × (Nat → Int32) => (∀ j, j < 64 → u.2.2.2.1 j = rwv j) ∧ (∀ j, j < 8 → u.2.2.2.2 j = fsv j)) (fun u t => va_P D vwCl (mdw h0 u) t.heap ∧ va_K D vwCl [(u.2.1, .int), (u.2.2.1, .long)] t ∧ va_D A (mdw h0 u)) A) 10 16310 A := by
  refine Met.ofW (cc := cX2_init) (maxL := 1) (ret := none) (by decide) rfl ?_
  intro p e s m args below meth c s₁ B hml hv
  obtain ⟨rfl, hsz, hP, hK, hD⟩ := hv
  have hx := B.exec
  have hb := B.bytes
  have hr := B.returns
  have hts := atoms_spec (ws := wsX2_init) B.pre
  have hown : s.vm.findClass RX2 = some m.cls := findClass_of_methodNamed B.named
  have hlocks := B.notSynchronized
  have hin : meth.name = "<init>" := (name_of_methodNamed B.named B.method).1
  have hA2 : ∀ q : Nat, s.heap.size ≤ q → A q := fun q h => hA q (by rw [← hsz]; exact h)
  have hS : va_S A s.heap s.heap [] := va_S.rf
  have hin0 : ∀ w ∈ u_ws RX2 TX2 16, w ∈ wsX2_init := fun w h => List.mem_cons_of_mem _ (List.mem_append_right _ h)
  have hl := lv_entry ([.ref h0]) (n := 1) (Nat.le_of_ble_eq_true rfl)
  rw [lg_entry_eq]
  generalize (lg_sl ([.ref h0]) ++ List.replicate (1 - (lg_sl ([.ref h0])).length) Slot.unset).toArray = ls at hl ⊢
  have hl : lv_has ls 1 [(0, .ref h0)] := hl
  refine lv_aload_n hx hb dX2_init_0 rfl (lv_at hl 0 rfl) ?_
  refine W.objInit hx hb hown (hts (.methodLink RX2 45 objectInit) (inM (List.mem_of_getElem? (i := 7) rfl))) (hts (.instanceMethod objectInit) (inM (List.mem_of_getElem? (i := 1) rfl))) (hts (.code objectInit ⟨#[0xb1]⟩ 1 none) (inM (List.mem_of_getElem? (i := 2) rfl))) rfl (by rw [hml]; exact hl.1) rfl dX2_init_1 (Nat.le_of_ble_eq_true rfl) (Nat.le_of_ble_eq_true rfl) ?_
  refine W.eq (g2 := F0 m 4 ls []) rfl ?_
  refine lv_aload_n hx hb dX2_init_4 rfl (lv_at hl 0 rfl) ?_
  refine lv_sipush (v := nI 512) hx hb dX2_init_5 (by decide) ?_
  refine va_newa (atype := .int) (ty := .int) (N' := 512) (a0 := (512, .inl (fun _ => 0))) hx hb (hts (.arrayClass .int) (inM (List.mem_of_getElem? (i := 4) rfl))) rfl hK hP hD hS hA2 (fun _ => rfl) (by decide) (by decide) (by decide) (Nat.le_of_ble_eq_true rfl) (Nat.le_of_ble_eq_true rfl) dX2_init_8 (fun a1 k1 H hK hP hD hS => ?_)
  have hP : va_P D vwCl [(h0, .inr (2, [.null, .int 0, .null, .null, .null, .null, .null, .int 0, .int 0, .null, .null, .null, .int 0, .int 0, .int 0, .null])), (a1, .inl (k1, 512, .inl (fun _ => 0)))] H := hP
  have hD : va_D A [(h0, .inr (2, [.null, .int 0, .null, .null, .null, .null, .null, .int 0, .int 0, .null, .null, .null, .int 0, .int 0, .int 0, .null])), (a1, .inl (k1, 512, .inl (fun _ => 0)))] := hD
  have hK : va_K D vwCl [(k1, .int)] s := hK
  refine va_putF (D := D) (ci := 2) (v := .ref a1) (ty := .array .int) (C := RX2) (T := TX2) (N := 16) hx hb hts hin0 tyX2 tyX2_ok nmX2 hown hK hP hD hS 0 rfl rfl 0 (by decide) (hts (.fieldLink RX2 22 "RootDeskModel" "hashed" "[I") (inM (List.mem_of_getElem? (i := 19) rfl))) (fun _ h9 => h9) rfl hin rfl (by decide +kernel) rfl rfl (Nat.le_of_ble_eq_true rfl) dX2_init_10 (fun H locs hP hD hS => ?_)
  have hP : va_P D vwCl [(h0, .inr (2, [.ref a1, .int 0, .null, .null, .null, .null, .null, .int 0, .int 0, .null, .null, .null, .int 0, .int 0, .int 0, .null])), (a1, .inl (k1, 512, .inl (fun _ => 0)))] H := hP
  have hD : va_D A [(h0, .inr (2, [.ref a1, .int 0, .null, .null, .null, .null, .null, .int 0, .int 0, .null, .null, .null, .int 0, .int 0, .int 0, .null])), (a1, .inl (k1, 512, .inl (fun _ => 0)))] := hD
  refine lv_aload_n hx hb dX2_init_13 rfl (lv_at hl 0 rfl) ?_
  refine lv_bipush (v := nI 8) hx hb dX2_init_14 (by decide) ?_
  refine va_newa (atype := .int) (ty := .int) (N' := 8) (a0 := (8, .inl (fun _ => 0))) hx hb (hts (.arrayClass .int) (inM (List.mem_of_getElem? (i := 4) rfl))) rfl hK hP hD hS hA2 (fun _ => rfl) (by decide) (by decide) (by decide) (Nat.le_of_ble_eq_true rfl) (Nat.le_of_ble_eq_true rfl) dX2_init_16 (fun a2 k2 H hK hP hD hS => ?_)
  have hP : va_P D vwCl [(h0, .inr (2, [.ref a1, .int 0, .null, .null, .null, .null, .null, .int 0, .int 0, .null, .null, .null, .int 0, .int 0, .int 0, .null])), (a1, .inl (k1, 512, .inl (fun _ => 0))), (a2, .inl (k2, 8, .inl (fun _ => 0)))] H := hP
  have hD : va_D A [(h0, .inr (2, [.ref a1, .int 0, .null, .null, .null, .null, .null, .int 0, .int 0, .null, .null, .null, .int 0, .int 0, .int 0, .null])), (a1, .inl (k1, 512, .inl (fun _ => 0))), (a2, .inl (k2, 8, .inl (fun _ => 0)))] := hD
  have hK : va_K D vwCl [(k1, .int), (k2, .int)] s := hK
  refine va_putF (D := D) (ci := 2) (v := .ref a2) (ty := .array .int) (C := RX2) (T := TX2) (N := 16) hx hb hts hin0 tyX2 tyX2_ok nmX2 hown hK hP hD hS 0 rfl rfl 2 (by decide) (hts (.fieldLink RX2 33 "RootDeskModel" "sums" "[I") (inM (List.mem_of_getElem? (i := 21) rfl))) (fun _ h9 => h9) rfl hin rfl (by decide +kernel) rfl rfl (Nat.le_of_ble_eq_true rfl) dX2_init_18 (fun H locs hP hD hS => ?_)
  have hP : va_P D vwCl [(h0, .inr (2, [.ref a1, .int 0, .ref a2, .null, .null, .null, .null, .int 0, .int 0, .null, .null, .null, .int 0, .int 0, .int 0, .null])), (a1, .inl (k1, 512, .inl (fun _ => 0))), (a2, .inl (k2, 8, .inl (fun _ => 0)))] H := hP
  have hD : va_D A [(h0, .inr (2, [.ref a1, .int 0, .ref a2, .null, .null, .null, .null, .int 0, .int 0, .null, .null, .null, .int 0, .int 0, .int 0, .null])), (a1, .inl (k1, 512, .inl (fun _ => 0))), (a2, .inl (k2, 8, .inl (fun _ => 0)))] := hD
  refine lv_aload_n hx hb dX2_init_21 rfl (lv_at hl 0 rfl) ?_
  refine lv_bipush (v := nI 64) hx hb dX2_init_22 (by decide) ?_
  refine va_newa (atype := .int) (ty := .int) (N' := 64) (a0 := (64, .inl (fun _ => 0))) hx hb (hts (.arrayClass .int) (inM (List.mem_of_getElem? (i := 4) rfl))) rfl hK hP hD hS hA2 (fun _ => rfl) (by decide) (by decide) (by decide) (Nat.le_of_ble_eq_true rfl) (Nat.le_of_ble_eq_true rfl) dX2_init_24 (fun a3 k3 H hK hP hD hS => ?_)
  have hP : va_P D vwCl [(h0, .inr (2, [.ref a1, .int 0, .ref a2, .null, .null, .null, .null, .int 0, .int 0, .null, .null, .null, .int 0, .int 0, .int 0, .null])), (a1, .inl (k1, 512, .inl (fun _ => 0))), (a2, .inl (k2, 8, .inl (fun _ => 0))), (a3, .inl (k3, 64, .inl (fun _ => 0)))] H := hP
  have hD : va_D A [(h0, .inr (2, [.ref a1, .int 0, .ref a2, .null, .null, .null, .null, .int 0, .int 0, .null, .null, .null, .int 0, .int 0, .int 0, .null])), (a1, .inl (k1, 512, .inl (fun _ => 0))), (a2, .inl (k2, 8, .inl (fun _ => 0))), (a3, .inl (k3, 64, .inl (fun _ => 0)))] := hD
  have hK : va_K D vwCl [(k1, .int), (k2, .int), (k3, .int)] s := hK
  refine va_putF (D := D) (ci := 2) (v := .ref a3) (ty := .array .int) (C := RX2) (T := TX2) (N := 16) hx hb hts hin0 tyX2 tyX2_ok nmX2 hown hK hP hD hS 0 rfl rfl 3 (by decide) (hts (.fieldLink RX2 39 "RootDeskModel" "schedule" "[I") (inM (List.mem_of_getElem? (i := 22) rfl))) (fun _ h9 => h9) rfl hin rfl (by decide +kernel) rfl rfl (Nat.le_of_ble_eq_true rfl) dX2_init_26 (fun H locs hP hD hS => ?_)
  have hP : va_P D vwCl [(h0, .inr (2, [.ref a1, .int 0, .ref a2, .ref a3, .null, .null, .null, .int 0, .int 0, .null, .null, .null, .int 0, .int 0, .int 0, .null])), (a1, .inl (k1, 512, .inl (fun _ => 0))), (a2, .inl (k2, 8, .inl (fun _ => 0))), (a3, .inl (k3, 64, .inl (fun _ => 0)))] H := hP
  have hD : va_D A [(h0, .inr (2, [.ref a1, .int 0, .ref a2, .ref a3, .null, .null, .null, .int 0, .int 0, .null, .null, .null, .int 0, .int 0, .int 0, .null])), (a1, .inl (k1, 512, .inl (fun _ => 0))), (a2, .inl (k2, 8, .inl (fun _ => 0))), (a3, .inl (k3, 64, .inl (fun _ => 0)))] := hD
  refine lv_aload_n hx hb dX2_init_29 rfl (lv_at hl 0 rfl) ?_
  refine lv_bipush (v := nI 64) hx hb dX2_init_30 (by decide) ?_
  refine va_newa (atype := .int) (ty := .int) (N' := 64) (a0 := (64, .inl (fun _ => 0))) hx hb (hts (.arrayClass .int) (inM (List.mem_of_getElem? (i := 4) rfl))) rfl hK hP hD hS hA2 (fun _ => rfl) (by decide) (by decide) (by decide) (Nat.le_of_ble_eq_true rfl) (Nat.le_of_ble_eq_true rfl) dX2_init_32 (fun a4 k4 H hK hP hD hS => ?_)
  have hP : va_P D vwCl [(h0, .inr (2, [.ref a1, .int 0, .ref a2, .ref a3, .null, .null, .null, .int 0, .int 0, .null, .null, .null, .int 0, .int 0, .int 0, .null])), (a1, .inl (k1, 512, .inl (fun _ => 0))), (a2, .inl (k2, 8, .inl (fun _ => 0))), (a3, .inl (k3, 64, .inl (fun _ => 0))), (a4, .inl (k4, 64, .inl (fun _ => 0)))] H := hP
  have hD : va_D A [(h0, .inr (2, [.ref a1, .int 0, .ref a2, .ref a3, .null, .null, .null, .int 0, .int 0, .null, .null, .null, .int 0, .int 0, .int 0, .null])), (a1, .inl (k1, 512, .inl (fun _ => 0))), (a2, .inl (k2, 8, .inl (fun _ => 0))), (a3, .inl (k3, 64, .inl (fun _ => 0))), (a4, .inl (k4, 64, .inl (fun _ => 0)))] := hD
  have hK : va_K D vwCl [(k1, .int), (k2, .int), (k3, .int), (k4, .int)] s := hK
  refine va_putF (D := D) (ci := 2) (v := .ref a4) (ty := .array .int) (C := RX2) (T := TX2) (N := 16) hx hb hts hin0 tyX2 tyX2_ok nmX2 hown hK hP hD hS 0 rfl rfl 4 (by decide) (hts (.fieldLink RX2 11 "RootDeskModel" "rounds" "[I") (inM (List.mem_of_getElem? (i := 23) rfl))) (fun _ h9 => h9) rfl hin rfl (by decide +kernel) rfl rfl (Nat.le_of_ble_eq_true rfl) dX2_init_34 (fun H locs hP hD hS => ?_)
  have hP : va_P D vwCl [(h0, .inr (2, [.ref a1, .int 0, .ref a2, .ref a3, .ref a4, .null, .null, .int 0, .int 0, .null, .null, .null, .int 0, .int 0, .int 0, .null])), (a1, .inl (k1, 512, .inl (fun _ => 0))), (a2, .inl (k2, 8, .inl (fun _ => 0))), (a3, .inl (k3, 64, .inl (fun _ => 0))), (a4, .inl (k4, 64, .inl (fun _ => 0)))] H := hP
  have hD : va_D A [(h0, .inr (2, [.ref a1, .int 0, .ref a2, .ref a3, .ref a4, .null, .null, .int 0, .int 0, .null, .null, .null, .int 0, .int 0, .int 0, .null])), (a1, .inl (k1, 512, .inl (fun _ => 0))), (a2, .inl (k2, 8, .inl (fun _ => 0))), (a3, .inl (k3, 64, .inl (fun _ => 0))), (a4, .inl (k4, 64, .inl (fun _ => 0)))] := hD
  refine lv_aload_n hx hb dX2_init_37 rfl (lv_at hl 0 rfl) ?_
  refine lv_bipush (v := nI 8) hx hb dX2_init_38 (by decide) ?_
  refine va_newa (atype := .int) (ty := .int) (N' := 8) (a0 := (8, .inl (fun _ => 0))) hx hb (hts (.arrayClass .int) (inM (List.mem_of_getElem? (i := 4) rfl))) rfl hK hP hD hS hA2 (fun _ => rfl) (by decide) (by decide) (by decide) (Nat.le_of_ble_eq_true rfl) (Nat.le_of_ble_eq_true rfl) dX2_init_40 (fun a5 k5 H hK hP hD hS => ?_)
  have hP : va_P D vwCl [(h0, .inr (2, [.ref a1, .int 0, .ref a2, .ref a3, .ref a4, .null, .null, .int 0, .int 0, .null, .null, .null, .int 0, .int 0, .int 0, .null])), (a1, .inl (k1, 512, .inl (fun _ => 0))), (a2, .inl (k2, 8, .inl (fun _ => 0))), (a3, .inl (k3, 64, .inl (fun _ => 0))), (a4, .inl (k4, 64, .inl (fun _ => 0))), (a5, .inl (k5, 8, .inl (fun _ => 0)))] H := hP
  have hD : va_D A [(h0, .inr (2, [.ref a1, .int 0, .ref a2, .ref a3, .ref a4, .null, .null, .int 0, .int 0, .null, .null, .null, .int 0, .int 0, .int 0, .null])), (a1, .inl (k1, 512, .inl (fun _ => 0))), (a2, .inl (k2, 8, .inl (fun _ => 0))), (a3, .inl (k3, 64, .inl (fun _ => 0))), (a4, .inl (k4, 64, .inl (fun _ => 0))), (a5, .inl (k5, 8, .inl (fun _ => 0)))] := hD
  have hK : va_K D vwCl [(k1, .int), (k2, .int), (k3, .int), (k4, .int), (k5, .int)] s := hK
  refine va_putF (D := D) (ci := 2) (v := .ref a5) (ty := .array .int) (C := RX2) (T := TX2) (N := 16) hx hb hts hin0 tyX2 tyX2_ok nmX2 hown hK hP hD hS 0 rfl rfl 5 (by decide) (hts (.fieldLink RX2 1 "RootDeskModel" "begins" "[I") (inM (List.mem_of_getElem? (i := 24) rfl))) (fun _ h9 => h9) rfl hin rfl (by decide +kernel) rfl rfl (Nat.le_of_ble_eq_true rfl) dX2_init_42 (fun H locs hP hD hS => ?_)
  have hP : va_P D vwCl [(h0, .inr (2, [.ref a1, .int 0, .ref a2, .ref a3, .ref a4, .ref a5, .null, .int 0, .int 0, .null, .null, .null, .int 0, .int 0, .int 0, .null])), (a1, .inl (k1, 512, .inl (fun _ => 0))), (a2, .inl (k2, 8, .inl (fun _ => 0))), (a3, .inl (k3, 64, .inl (fun _ => 0))), (a4, .inl (k4, 64, .inl (fun _ => 0))), (a5, .inl (k5, 8, .inl (fun _ => 0)))] H := hP
  have hD : va_D A [(h0, .inr (2, [.ref a1, .int 0, .ref a2, .ref a3, .ref a4, .ref a5, .null, .int 0, .int 0, .null, .null, .null, .int 0, .int 0, .int 0, .null])), (a1, .inl (k1, 512, .inl (fun _ => 0))), (a2, .inl (k2, 8, .inl (fun _ => 0))), (a3, .inl (k3, 64, .inl (fun _ => 0))), (a4, .inl (k4, 64, .inl (fun _ => 0))), (a5, .inl (k5, 8, .inl (fun _ => 0)))] := hD
  refine lv_aload_n hx hb dX2_init_45 rfl (lv_at hl 0 rfl) ?_
  refine lv_sipush (v := nI 150) hx hb dX2_init_46 (by decide) ?_
  refine va_newa (atype := .int) (ty := .int) (N' := 150) (a0 := (150, .inl (fun _ => 0))) hx hb (hts (.arrayClass .int) (inM (List.mem_of_getElem? (i := 4) rfl))) rfl hK hP hD hS hA2 (fun _ => rfl) (by decide) (by decide) (by decide) (Nat.le_of_ble_eq_true rfl) (Nat.le_of_ble_eq_true rfl) dX2_init_49 (fun a6 k6 H hK hP hD hS => ?_)
  have hP : va_P D vwCl [(h0, .inr (2, [.ref a1, .int 0, .ref a2, .ref a3, .ref a4, .ref a5, .null, .int 0, .int 0, .null, .null, .null, .int 0, .int 0, .int 0, .null])), (a1, .inl (k1, 512, .inl (fun _ => 0))), (a2, .inl (k2, 8, .inl (fun _ => 0))), (a3, .inl (k3, 64, .inl (fun _ => 0))), (a4, .inl (k4, 64, .inl (fun _ => 0))), (a5, .inl (k5, 8, .inl (fun _ => 0))), (a6, .inl (k6, 150, .inl (fun _ => 0)))] H := hP
  have hD : va_D A [(h0, .inr (2, [.ref a1, .int 0, .ref a2, .ref a3, .ref a4, .ref a5, .null, .int 0, .int 0, .null, .null, .null, .int 0, .int 0, .int 0, .null])), (a1, .inl (k1, 512, .inl (fun _ => 0))), (a2, .inl (k2, 8, .inl (fun _ => 0))), (a3, .inl (k3, 64, .inl (fun _ => 0))), (a4, .inl (k4, 64, .inl (fun _ => 0))), (a5, .inl (k5, 8, .inl (fun _ => 0))), (a6, .inl (k6, 150, .inl (fun _ => 0)))] := hD
  have hK : va_K D vwCl [(k1, .int), (k2, .int), (k3, .int), (k4, .int), (k5, .int), (k6, .int)] s := hK
  refine va_putF (D := D) (ci := 2) (v := .ref a6) (ty := .array .int) (C := RX2) (T := TX2) (N := 16) hx hb hts hin0 tyX2 tyX2_ok nmX2 hown hK hP hD hS 0 rfl rfl 6 (by decide) (hts (.fieldLink RX2 51 "RootDeskModel" "tape" "[I") (inM (List.mem_of_getElem? (i := 25) rfl))) (fun _ h9 => h9) rfl hin rfl (by decide +kernel) rfl rfl (Nat.le_of_ble_eq_true rfl) dX2_init_51 (fun H locs hP hD hS => ?_)
  have hP : va_P D vwCl [(h0, .inr (2, [.ref a1, .int 0, .ref a2, .ref a3, .ref a4, .ref a5, .ref a6, .int 0, .int 0, .null, .null, .null, .int 0, .int 0, .int 0, .null])), (a1, .inl (k1, 512, .inl (fun _ => 0))), (a2, .inl (k2, 8, .inl (fun _ => 0))), (a3, .inl (k3, 64, .inl (fun _ => 0))), (a4, .inl (k4, 64, .inl (fun _ => 0))), (a5, .inl (k5, 8, .inl (fun _ => 0))), (a6, .inl (k6, 150, .inl (fun _ => 0)))] H := hP
  have hD : va_D A [(h0, .inr (2, [.ref a1, .int 0, .ref a2, .ref a3, .ref a4, .ref a5, .ref a6, .int 0, .int 0, .null, .null, .null, .int 0, .int 0, .int 0, .null])), (a1, .inl (k1, 512, .inl (fun _ => 0))), (a2, .inl (k2, 8, .inl (fun _ => 0))), (a3, .inl (k3, 64, .inl (fun _ => 0))), (a4, .inl (k4, 64, .inl (fun _ => 0))), (a5, .inl (k5, 8, .inl (fun _ => 0))), (a6, .inl (k6, 150, .inl (fun _ => 0)))] := hD
  refine lv_aload_n hx hb dX2_init_54 rfl (lv_at hl 0 rfl) ?_
  refine lv_sipush (v := nI 15000) hx hb dX2_init_55 (by decide) ?_
  refine va_newa (atype := .int) (ty := .int) (N' := 15000) (a0 := (15000, .inl (fun _ => 0))) hx hb (hts (.arrayClass .int) (inM (List.mem_of_getElem? (i := 4) rfl))) rfl hK hP hD hS hA2 (fun _ => rfl) (by decide) (by decide) (by decide) (Nat.le_of_ble_eq_true rfl) (Nat.le_of_ble_eq_true rfl) dX2_init_58 (fun a7 k7 H hK hP hD hS => ?_)
  have hP : va_P D vwCl [(h0, .inr (2, [.ref a1, .int 0, .ref a2, .ref a3, .ref a4, .ref a5, .ref a6, .int 0, .int 0, .null, .null, .null, .int 0, .int 0, .int 0, .null])), (a1, .inl (k1, 512, .inl (fun _ => 0))), (a2, .inl (k2, 8, .inl (fun _ => 0))), (a3, .inl (k3, 64, .inl (fun _ => 0))), (a4, .inl (k4, 64, .inl (fun _ => 0))), (a5, .inl (k5, 8, .inl (fun _ => 0))), (a6, .inl (k6, 150, .inl (fun _ => 0))), (a7, .inl (k7, 15000, .inl (fun _ => 0)))] H := hP
  have hD : va_D A [(h0, .inr (2, [.ref a1, .int 0, .ref a2, .ref a3, .ref a4, .ref a5, .ref a6, .int 0, .int 0, .null, .null, .null, .int 0, .int 0, .int 0, .null])), (a1, .inl (k1, 512, .inl (fun _ => 0))), (a2, .inl (k2, 8, .inl (fun _ => 0))), (a3, .inl (k3, 64, .inl (fun _ => 0))), (a4, .inl (k4, 64, .inl (fun _ => 0))), (a5, .inl (k5, 8, .inl (fun _ => 0))), (a6, .inl (k6, 150, .inl (fun _ => 0))), (a7, .inl (k7, 15000, .inl (fun _ => 0)))] := hD
  have hK : va_K D vwCl [(k1, .int), (k2, .int), (k3, .int), (k4, .int), (k5, .int), (k6, .int), (k7, .int)] s := hK
  refine va_putF (D := D) (ci := 2) (v := .ref a7) (ty := .array .int) (C := RX2) (T := TX2) (N := 16) hx hb hts hin0 tyX2 tyX2_ok nmX2 hown hK hP hD hS 0 rfl rfl 9 (by decide) (hts (.fieldLink RX2 54 "RootDeskModel" "bytes" "[I") (inM (List.mem_of_getElem? (i := 28) rfl))) (fun _ h9 => h9) rfl hin rfl (by decide +kernel) rfl rfl (Nat.le_of_ble_eq_true rfl) dX2_init_60 (fun H locs hP hD hS => ?_)
  have hP : va_P D vwCl [(h0, .inr (2, [.ref a1, .int 0, .ref a2, .ref a3, .ref a4, .ref a5, .ref a6, .int 0, .int 0, .ref a7, .null, .null, .int 0, .int 0, .int 0, .null])), (a1, .inl (k1, 512, .inl (fun _ => 0))), (a2, .inl (k2, 8, .inl (fun _ => 0))), (a3, .inl (k3, 64, .inl (fun _ => 0))), (a4, .inl (k4, 64, .inl (fun _ => 0))), (a5, .inl (k5, 8, .inl (fun _ => 0))), (a6, .inl (k6, 150, .inl (fun _ => 0))), (a7, .inl (k7, 15000, .inl (fun _ => 0)))] H := hP
  have hD : va_D A [(h0, .inr (2, [.ref a1, .int 0, .ref a2, .ref a3, .ref a4, .ref a5, .ref a6, .int 0, .int 0, .ref a7, .null, .null, .int 0, .int 0, .int 0, .null])), (a1, .inl (k1, 512, .inl (fun _ => 0))), (a2, .inl (k2, 8, .inl (fun _ => 0))), (a3, .inl (k3, 64, .inl (fun _ => 0))), (a4, .inl (k4, 64, .inl (fun _ => 0))), (a5, .inl (k5, 8, .inl (fun _ => 0))), (a6, .inl (k6, 150, .inl (fun _ => 0))), (a7, .inl (k7, 15000, .inl (fun _ => 0)))] := hD
  refine lv_aload_n hx hb dX2_init_63 rfl (lv_at hl 0 rfl) ?_
  refine lv_bipush (v := nI 100) hx hb dX2_init_64 (by decide) ?_
  refine va_newa (atype := .int) (ty := .int) (N' := 100) (a0 := (100, .inl (fun _ => 0))) hx hb (hts (.arrayClass .int) (inM (List.mem_of_getElem? (i := 4) rfl))) rfl hK hP hD hS hA2 (fun _ => rfl) (by decide) (by decide) (by decide) (Nat.le_of_ble_eq_true rfl) (Nat.le_of_ble_eq_true rfl) dX2_init_66 (fun a8 k8 H hK hP hD hS => ?_)
  have hP : va_P D vwCl [(h0, .inr (2, [.ref a1, .int 0, .ref a2, .ref a3, .ref a4, .ref a5, .ref a6, .int 0, .int 0, .ref a7, .null, .null, .int 0, .int 0, .int 0, .null])), (a1, .inl (k1, 512, .inl (fun _ => 0))), (a2, .inl (k2, 8, .inl (fun _ => 0))), (a3, .inl (k3, 64, .inl (fun _ => 0))), (a4, .inl (k4, 64, .inl (fun _ => 0))), (a5, .inl (k5, 8, .inl (fun _ => 0))), (a6, .inl (k6, 150, .inl (fun _ => 0))), (a7, .inl (k7, 15000, .inl (fun _ => 0))), (a8, .inl (k8, 100, .inl (fun _ => 0)))] H := hP
  have hD : va_D A [(h0, .inr (2, [.ref a1, .int 0, .ref a2, .ref a3, .ref a4, .ref a5, .ref a6, .int 0, .int 0, .ref a7, .null, .null, .int 0, .int 0, .int 0, .null])), (a1, .inl (k1, 512, .inl (fun _ => 0))), (a2, .inl (k2, 8, .inl (fun _ => 0))), (a3, .inl (k3, 64, .inl (fun _ => 0))), (a4, .inl (k4, 64, .inl (fun _ => 0))), (a5, .inl (k5, 8, .inl (fun _ => 0))), (a6, .inl (k6, 150, .inl (fun _ => 0))), (a7, .inl (k7, 15000, .inl (fun _ => 0))), (a8, .inl (k8, 100, .inl (fun _ => 0)))] := hD
  have hK : va_K D vwCl [(k1, .int), (k2, .int), (k3, .int), (k4, .int), (k5, .int), (k6, .int), (k7, .int), (k8, .int)] s := hK
  refine va_putF (D := D) (ci := 2) (v := .ref a8) (ty := .array .int) (C := RX2) (T := TX2) (N := 16) hx hb hts hin0 tyX2 tyX2_ok nmX2 hown hK hP hD hS 0 rfl rfl 10 (by decide) (hts (.fieldLink RX2 57 "RootDeskModel" "sizes" "[I") (inM (List.mem_of_getElem? (i := 29) rfl))) (fun _ h9 => h9) rfl hin rfl (by decide +kernel) rfl rfl (Nat.le_of_ble_eq_true rfl) dX2_init_68 (fun H locs hP hD hS => ?_)
  have hP : va_P D vwCl [(h0, .inr (2, [.ref a1, .int 0, .ref a2, .ref a3, .ref a4, .ref a5, .ref a6, .int 0, .int 0, .ref a7, .ref a8, .null, .int 0, .int 0, .int 0, .null])), (a1, .inl (k1, 512, .inl (fun _ => 0))), (a2, .inl (k2, 8, .inl (fun _ => 0))), (a3, .inl (k3, 64, .inl (fun _ => 0))), (a4, .inl (k4, 64, .inl (fun _ => 0))), (a5, .inl (k5, 8, .inl (fun _ => 0))), (a6, .inl (k6, 150, .inl (fun _ => 0))), (a7, .inl (k7, 15000, .inl (fun _ => 0))), (a8, .inl (k8, 100, .inl (fun _ => 0)))] H := hP
  have hD : va_D A [(h0, .inr (2, [.ref a1, .int 0, .ref a2, .ref a3, .ref a4, .ref a5, .ref a6, .int 0, .int 0, .ref a7, .ref a8, .null, .int 0, .int 0, .int 0, .null])), (a1, .inl (k1, 512, .inl (fun _ => 0))), (a2, .inl (k2, 8, .inl (fun _ => 0))), (a3, .inl (k3, 64, .inl (fun _ => 0))), (a4, .inl (k4, 64, .inl (fun _ => 0))), (a5, .inl (k5, 8, .inl (fun _ => 0))), (a6, .inl (k6, 150, .inl (fun _ => 0))), (a7, .inl (k7, 15000, .inl (fun _ => 0))), (a8, .inl (k8, 100, .inl (fun _ => 0)))] := hD
  refine lv_aload_n hx hb dX2_init_71 rfl (lv_at hl 0 rfl) ?_
  refine lv_sipush (v := nI 400) hx hb dX2_init_72 (by decide) ?_
  refine va_newa (atype := .long) (ty := .long) (N' := 400) (a0 := (400, .inr (.inl (fun _ => 0)))) hx hb (hts (.arrayClass .long) (inM (List.mem_of_getElem? (i := 35) rfl))) rfl hK hP hD hS hA2 (fun _ => rfl) (by decide) (by decide) (by decide) (Nat.le_of_ble_eq_true rfl) (Nat.le_of_ble_eq_true rfl) dX2_init_75 (fun a9 k9 H hK hP hD hS => ?_)
  have hP : va_P D vwCl [(h0, .inr (2, [.ref a1, .int 0, .ref a2, .ref a3, .ref a4, .ref a5, .ref a6, .int 0, .int 0, .ref a7, .ref a8, .null, .int 0, .int 0, .int 0, .null])), (a1, .inl (k1, 512, .inl (fun _ => 0))), (a2, .inl (k2, 8, .inl (fun _ => 0))), (a3, .inl (k3, 64, .inl (fun _ => 0))), (a4, .inl (k4, 64, .inl (fun _ => 0))), (a5, .inl (k5, 8, .inl (fun _ => 0))), (a6, .inl (k6, 150, .inl (fun _ => 0))), (a7, .inl (k7, 15000, .inl (fun _ => 0))), (a8, .inl (k8, 100, .inl (fun _ => 0))), (a9, .inl (k9, 400, .inr (.inl (fun _ => 0))))] H := hP
  have hD : va_D A [(h0, .inr (2, [.ref a1, .int 0, .ref a2, .ref a3, .ref a4, .ref a5, .ref a6, .int 0, .int 0, .ref a7, .ref a8, .null, .int 0, .int 0, .int 0, .null])), (a1, .inl (k1, 512, .inl (fun _ => 0))), (a2, .inl (k2, 8, .inl (fun _ => 0))), (a3, .inl (k3, 64, .inl (fun _ => 0))), (a4, .inl (k4, 64, .inl (fun _ => 0))), (a5, .inl (k5, 8, .inl (fun _ => 0))), (a6, .inl (k6, 150, .inl (fun _ => 0))), (a7, .inl (k7, 15000, .inl (fun _ => 0))), (a8, .inl (k8, 100, .inl (fun _ => 0))), (a9, .inl (k9, 400, .inr (.inl (fun _ => 0))))] := hD
  have hK : va_K D vwCl [(k1, .int), (k2, .int), (k3, .int), (k4, .int), (k5, .int), (k6, .int), (k7, .int), (k8, .int), (k9, .long)] s := hK
  refine va_putF (D := D) (ci := 2) (v := .ref a9) (ty := .array .long) (C := RX2) (T := TX2) (N := 16) hx hb hts hin0 tyX2 tyX2_ok nmX2 hown hK hP hD hS 0 rfl rfl 11 (by decide) (hts (.fieldLink RX2 60 "RootDeskModel" "level" "[J") (inM (List.mem_of_getElem? (i := 30) rfl))) (fun _ h9 => h9) rfl hin rfl (by decide +kernel) rfl rfl (Nat.le_of_ble_eq_true rfl) dX2_init_77 (fun H locs hP hD hS => ?_)
  have hP : va_P D vwCl [(h0, .inr (2, [.ref a1, .int 0, .ref a2, .ref a3, .ref a4, .ref a5, .ref a6, .int 0, .int 0, .ref a7, .ref a8, .ref a9, .int 0, .int 0, .int 0, .null])), (a1, .inl (k1, 512, .inl (fun _ => 0))), (a2, .inl (k2, 8, .inl (fun _ => 0))), (a3, .inl (k3, 64, .inl (fun _ => 0))), (a4, .inl (k4, 64, .inl (fun _ => 0))), (a5, .inl (k5, 8, .inl (fun _ => 0))), (a6, .inl (k6, 150, .inl (fun _ => 0))), (a7, .inl (k7, 15000, .inl (fun _ => 0))), (a8, .inl (k8, 100, .inl (fun _ => 0))), (a9, .inl (k9, 400, .inr (.inl (fun _ => 0))))] H := hP
  have hD : va_D A [(h0, .inr (2, [.ref a1, .int 0, .ref a2, .ref a3, .ref a4, .ref a5, .ref a6, .int 0, .int 0, .ref a7, .ref a8, .ref a9, .int 0, .int 0, .int 0, .null])), (a1, .inl (k1, 512, .inl (fun _ => 0))), (a2, .inl (k2, 8, .inl (fun _ => 0))), (a3, .inl (k3, 64, .inl (fun _ => 0))), (a4, .inl (k4, 64, .inl (fun _ => 0))), (a5, .inl (k5, 8, .inl (fun _ => 0))), (a6, .inl (k6, 150, .inl (fun _ => 0))), (a7, .inl (k7, 15000, .inl (fun _ => 0))), (a8, .inl (k8, 100, .inl (fun _ => 0))), (a9, .inl (k9, 400, .inr (.inl (fun _ => 0))))] := hD
  refine lv_aload_n hx hb dX2_init_80 rfl (lv_at hl 0 rfl) ?_
  refine lv_iconst (v := nI 4) hx hb dX2_init_81 (by decide) ?_
  refine va_newa (atype := .long) (ty := .long) (N' := 4) (a0 := (4, .inr (.inl (fun _ => 0)))) hx hb (hts (.arrayClass .long) (inM (List.mem_of_getElem? (i := 35) rfl))) rfl hK hP hD hS hA2 (fun _ => rfl) (by decide) (by decide) (by decide) (Nat.le_of_ble_eq_true rfl) (Nat.le_of_ble_eq_true rfl) dX2_init_82 (fun a10 k10 H hK hP hD hS => ?_)
  have hP : va_P D vwCl [(h0, .inr (2, [.ref a1, .int 0, .ref a2, .ref a3, .ref a4, .ref a5, .ref a6, .int 0, .int 0, .ref a7, .ref a8, .ref a9, .int 0, .int 0, .int 0, .null])), (a1, .inl (k1, 512, .inl (fun _ => 0))), (a2, .inl (k2, 8, .inl (fun _ => 0))), (a3, .inl (k3, 64, .inl (fun _ => 0))), (a4, .inl (k4, 64, .inl (fun _ => 0))), (a5, .inl (k5, 8, .inl (fun _ => 0))), (a6, .inl (k6, 150, .inl (fun _ => 0))), (a7, .inl (k7, 15000, .inl (fun _ => 0))), (a8, .inl (k8, 100, .inl (fun _ => 0))), (a9, .inl (k9, 400, .inr (.inl (fun _ => 0)))), (a10, .inl (k10, 4, .inr (.inl (fun _ => 0))))] H := hP
  have hD : va_D A [(h0, .inr (2, [.ref a1, .int 0, .ref a2, .ref a3, .ref a4, .ref a5, .ref a6, .int 0, .int 0, .ref a7, .ref a8, .ref a9, .int 0, .int 0, .int 0, .null])), (a1, .inl (k1, 512, .inl (fun _ => 0))), (a2, .inl (k2, 8, .inl (fun _ => 0))), (a3, .inl (k3, 64, .inl (fun _ => 0))), (a4, .inl (k4, 64, .inl (fun _ => 0))), (a5, .inl (k5, 8, .inl (fun _ => 0))), (a6, .inl (k6, 150, .inl (fun _ => 0))), (a7, .inl (k7, 15000, .inl (fun _ => 0))), (a8, .inl (k8, 100, .inl (fun _ => 0))), (a9, .inl (k9, 400, .inr (.inl (fun _ => 0)))), (a10, .inl (k10, 4, .inr (.inl (fun _ => 0))))] := hD
  have hK : va_K D vwCl [(k1, .int), (k2, .int), (k3, .int), (k4, .int), (k5, .int), (k6, .int), (k7, .int), (k8, .int), (k9, .long), (k10, .long)] s := hK
  refine va_putF (D := D) (ci := 2) (v := .ref a10) (ty := .array .long) (C := RX2) (T := TX2) (N := 16) hx hb hts hin0 tyX2 tyX2_ok nmX2 hown hK hP hD hS 0 rfl rfl 15 (by decide) (hts (.fieldLink RX2 64 "RootDeskModel" "mine" "[J") (inM (List.mem_of_getElem? (i := 34) rfl))) (fun _ h9 => h9) rfl hin rfl (by decide +kernel) rfl rfl (Nat.le_of_ble_eq_true rfl) dX2_init_84 (fun H locs hP hD hS => ?_)
  have hP : va_P D vwCl [(h0, .inr (2, [.ref a1, .int 0, .ref a2, .ref a3, .ref a4, .ref a5, .ref a6, .int 0, .int 0, .ref a7, .ref a8, .ref a9, .int 0, .int 0, .int 0, .ref a10])), (a1, .inl (k1, 512, .inl (fun _ => 0))), (a2, .inl (k2, 8, .inl (fun _ => 0))), (a3, .inl (k3, 64, .inl (fun _ => 0))), (a4, .inl (k4, 64, .inl (fun _ => 0))), (a5, .inl (k5, 8, .inl (fun _ => 0))), (a6, .inl (k6, 150, .inl (fun _ => 0))), (a7, .inl (k7, 15000, .inl (fun _ => 0))), (a8, .inl (k8, 100, .inl (fun _ => 0))), (a9, .inl (k9, 400, .inr (.inl (fun _ => 0)))), (a10, .inl (k10, 4, .inr (.inl (fun _ => 0))))] H := hP
  have hD : va_D A [(h0, .inr (2, [.ref a1, .int 0, .ref a2, .ref a3, .ref a4, .ref a5, .ref a6, .int 0, .int 0, .ref a7, .ref a8, .ref a9, .int 0, .int 0, .int 0, .ref a10])), (a1, .inl (k1, 512, .inl (fun _ => 0))), (a2, .inl (k2, 8, .inl (fun _ => 0))), (a3, .inl (k3, 64, .inl (fun _ => 0))), (a4, .inl (k4, 64, .inl (fun _ => 0))), (a5, .inl (k5, 8, .inl (fun _ => 0))), (a6, .inl (k6, 150, .inl (fun _ => 0))), (a7, .inl (k7, 15000, .inl (fun _ => 0))), (a8, .inl (k8, 100, .inl (fun _ => 0))), (a9, .inl (k9, 400, .inr (.inl (fun _ => 0)))), (a10, .inl (k10, 4, .inr (.inl (fun _ => 0))))] := hD
  obtain rfl : k2 = k1 := ka_i hK 1 0 rfl rfl
  obtain rfl : k3 = k2 := ka_i hK 2 0 rfl rfl
  obtain rfl : k4 = k3 := ka_i hK 3 0 rfl rfl
  obtain rfl : k5 = k4 := ka_i hK 4 0 rfl rfl
  obtain rfl : k6 = k5 := ka_i hK 5 0 rfl rfl
  obtain rfl : k7 = k6 := ka_i hK 6 0 rfl rfl
  obtain rfl : k8 = k7 := ka_i hK 7 0 rfl rfl
  obtain rfl : k10 = k9 := ka_j hK 9 8 rfl rfl
  have hK := hK.sub (tys' := [(k8, .int), (k10, .long)]) [0, 8] rfl
  have hP : va_P D vwCl (wm (mkq h0 a1 a2 a3 a4 a5 a6 a7 a8 a9 a10) k8 k10 0 0 0 0 0 0 (fun _ => 0) (fun _ => 0) (fun _ => 0) (fun _ => 0) (fun _ => 0) (fun _ => 0) (fun _ => 0) (fun _ => 0) (fun _ => 0) (fun _ => 0)) H := hP
  have hD : va_D A (wm (mkq h0 a1 a2 a3 a4 a5 a6 a7 a8 a9 a10) k8 k10 0 0 0 0 0 0 (fun _ => 0) (fun _ => 0) (fun _ => 0) (fun _ => 0) (fun _ => 0) (fun _ => 0) (fun _ => 0) (fun _ => 0) (fun _ => 0) (fun _ => 0)) := hD
  have hZ : sx [] A s s.heap := fun k z hz => by simp at hz
  refine lv_aload_n hx hb dX2_init_87 rfl (lv_at hl 0 rfl) ?_
  refine kc_v (As := []) (rest := []) ⟨hx, hb, hml, hown, hts⟩ (m_primes l D A (mkq h0 a1 a2 a3 a4 a5 a6 a7 a8 a9 a10) k8 k10 0 0 0 0 0 0 (fun _ => 0) (fun _ => 0) (fun _ => 0) (fun _ => 0) (fun _ => 0) (fun _ => 0) (fun _ => 0) (fun _ => 0) (fun _ => 0) (fun _ => 0)) (cwV 0 hts (gMV (List.mem_of_getElem? (i := 8) rfl) (List.mem_of_getElem? (i := 9) rfl) (List.mem_of_getElem? (i := 110) rfl) (List.mem_of_getElem? (i := 0) rfl) (List.mem_of_getElem? (i := 10) rfl)) rfl rfl rfl (by decide +kernel) ⟨Nat.le_of_ble_eq_true rfl, Nat.le_of_ble_eq_true rfl⟩) (va_recv hK hP (ci := 2) (q0 := 0) rfl rfl) hK hP hD hS hZ rfl hl.1 rfl (Nat.le_of_ble_eq_true rfl) ⟨Nat.le_of_ble_eq_true rfl, Nat.le_of_ble_eq_true rfl⟩ dX2_init_88 (fun u H locs hw hP hD hS => ?_)
  exact W.vret hx hb hr (fun t ht hW => ⟨⟨((a1, a2, a3, a4, a5, a6, a7, a8, a9, a10), k8, k10, u.1, u.2), rfl, hw, by rw [ht]; exact hP, va_K.moved hW.alike hK, hD⟩, hS.F ht⟩) hS.2.2 dX2_init_91
