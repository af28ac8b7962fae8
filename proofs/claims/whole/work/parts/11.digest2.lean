set_option maxHeartbeats 4000000 in
set_option maxRecDepth 100000 in
/-- fillSchedule: the sixty four words of the block at f -/
theorem c_D_fillSchedule (l : Launch) (D : va_G) (A : Nat → Prop) (q : Nat → Nat) (cB cI : ClassId) (tl lv lb ln : Nat) (tp : Nat → Int32) (ll : Nat → Nat) (id ms sc st : Nat → Int32) (f : Nat) (h1 : f + 64 ≤ 192) : Kv (S := (Nat → Int32)) l yX0_fillSchedule wsX0_fillSchedule { frames := 1, cells := 0, slots := 0, locals := 21 } D vwCl [(cB, .byte), (cI, .int)] A (zk q) [.ref (q 4), .int (nI f)] (wk q cB cI tl lv lb ln tp ll id ms sc st) (fun u => ∀ t, t < 64 → u t = swl (wd ms f) 48 t) (fun u => wk q cB cI tl lv lb ln tp ll id ms u st) := by
  refine Met.ofW (cc := cX0_fillSchedule) (maxL := 7) (ret := none) (by decide) rfl ?_
  intro p e s m args below meth c s₁ B hml hv
  obtain ⟨rfl, hP, hK, hD, hZ⟩ := hv
  have hx := B.exec
  have hb := B.bytes
  have hr := B.returns
  have hts := atoms_spec (ws := wsX0_fillSchedule) B.pre
  have hown : s.vm.findClass RX0 = some m.cls := findClass_of_methodNamed B.named
  have hlocks := B.notSynchronized
  have hS : va_S A s.heap s.heap [] := va_S.rf
  have hin_0 : ∀ w ∈ u_ws RX0 TX0 4, w ∈ wsX0_fillSchedule := by decide +kernel
  have lk_11 := hts (.fieldLink RX0 11 "RootDesk$Digest" "message" "[B") (by decide +kernel)
  have lk_15 := hts (.fieldLink RX0 15 "RootDesk$Digest" "schedule" "[I") (by decide +kernel)
  have hl := lv_entry ([.ref (q 4), .int (nI f)]) (n := 7) (Nat.le_of_ble_eq_true rfl)
  rw [lg_entry_eq]
  generalize (lg_sl ([.ref (q 4), .int (nI f)]) ++ List.replicate (7 - (lg_sl ([.ref (q 4), .int (nI f)])).length) Slot.unset).toArray = ls at hl ⊢
  have hl : lv_has ls 7 [(0, .ref (q 4)), (1, .int (nI f))] := hl
  refine lv_iconst (v := (nI (0))) hx hb dX0_fillSchedule_0 (by decide) ?_
  refine lv_istore_n (lv' := [(2, .int (nI 0)), (0, .ref (q 4)), (1, .int (nI f))]) hx hb dX0_fillSchedule_1 rfl hl (by decide) rfl (fun ls hl => ?_)
  refine kp_lp (hd := 2) (nn := 16) (fun (i : Nat) (H : Heap) (locs : List Loc) (ls : Array Slot) => ∃ (sc1 : Nat → Int32), (∀ j, j < i → sc1 j = wd ms f j) ∧ va_P D vwCl (wk q cB cI tl lv lb ln tp ll id ms sc1 st) H ∧ va_D A (wk q cB cI tl lv lb ln tp ll id ms sc1 st) ∧ va_S A s.heap H locs ∧ lv_has ls 7 [(0, .ref (q 4)), (1, .int (nI f)), (2, .int (nI i))]) ?_ 0 (by omega) _ _ _ ⟨sc, fun j hj => absurd hj (Nat.not_lt_zero j), hP, hD, hS, (lv_sub hl [1, 2, 0] rfl)⟩
  intro i hiN H locs ls hI ih
  obtain ⟨sc1, hI_0, hP, hD, hS, hl⟩ := hI
  refine lv_iload_n hx hb dX0_fillSchedule_2 rfl (lv_at hl 2 rfl) ?_
  refine lv_bipush (v := (nI (16))) hx hb dX0_fillSchedule_3 (by decide) ?_
  refine lv_icmp_ge (tgt := 84) hx hb dX0_fillSchedule_5 (by decide) (fun c_5 => ?_) (fun c_5 => ?_)
  · have c_5 : 16 ≤ i := kn_le c_5 (by omega) (by omega)
    have e9 : 16 = i := by omega
    subst e9
    refine lv_bipush (v := (nI (16))) hx hb dX0_fillSchedule_84 (by decide) ?_
    refine lv_istore_n (lv' := [(2, .int (nI 16)), (0, .ref (q 4)), (1, .int (nI f))]) hx hb dX0_fillSchedule_86 rfl hl (by decide) rfl (fun ls hl => ?_)
    refine kp_lp (hd := 87) (nn := 48) (fun (i : Nat) (H : Heap) (locs : List Loc) (ls : Array Slot) => ∃ (sc1 : Nat → Int32), (∀ j, j < 16 + i → sc1 j = swl (wd ms f) i j) ∧ va_P D vwCl (wk q cB cI tl lv lb ln tp ll id ms sc1 st) H ∧ va_D A (wk q cB cI tl lv lb ln tp ll id ms sc1 st) ∧ va_S A s.heap H locs ∧ lv_has ls 7 [(0, .ref (q 4)), (1, .int (nI f)), (2, .int (nI (16 + i)))]) ?_ 0 (by omega) _ _ _ ⟨sc1, fun j hj => hI_0 j hj, hP, hD, hS, (lv_sub hl [1, 2, 0] rfl)⟩
    intro i hiN H locs ls hI ih
    obtain ⟨sc1, hI_0, hP, hD, hS, hl⟩ := hI
    refine lv_iload_n hx hb dX0_fillSchedule_87 rfl (lv_at hl 2 rfl) ?_
    refine lv_bipush (v := (nI (64))) hx hb dX0_fillSchedule_88 (by decide) ?_
    refine lv_icmp_ge (tgt := 192) hx hb dX0_fillSchedule_90 (by decide) (fun c_90 => ?_) (fun c_90 => ?_)
    · have c_90 : 64 ≤ (16 + i) := kn_le c_90 (by omega) (by omega)
      have e9 : 48 = i := by omega
      subst e9
      exact kr_v (sc1) hx hb hr hlocks hK hP hD hS (fun t ht => hI_0 t (by omega)) dX0_fillSchedule_192
    · have c_90 : (16 + i) < 64 := kn_nle c_90 (by omega) (by omega)
      have hlt : i < 48 := by omega
      refine lv_aload_n hx hb dX0_fillSchedule_93 rfl (lv_at hl 0 rfl) ?_
      refine va_get (D := D) (ci := 0) (v := .ref (q 6)) (C := RX0) (T := TX0) (N := 4) hx hb hts hin_0 hown hK hP 4 rfl rfl 1 (by decide) lk_15 (fun _ h9 => h9) rfl dX0_fillSchedule_94 ?_
      refine lv_iload_n hx hb dX0_fillSchedule_97 rfl (lv_at hl 2 rfl) ?_
      refine lv_bipush (v := (nI (15))) hx hb dX0_fillSchedule_98 (by decide) ?_
      refine lv_isub hx hb dX0_fillSchedule_100 ?_
      refine kp_i (y := (nI (i + 1))) (kn_sub (by omega)) ?_
      refine kb_iald hx hb hK hP 6 1 rfl rfl (i + 1) (rfl) (by omega) (by decide) dX0_fillSchedule_101 ?_
      refine lv_istore_n (lv' := [(3, .int (sc1 (i + 1))), (0, .ref (q 4)), (1, .int (nI f)), (2, .int (nI (16 + i)))]) hx hb dX0_fillSchedule_102 rfl hl (by decide) rfl (fun ls hl => ?_)
      refine lv_aload_n hx hb dX0_fillSchedule_103 rfl (lv_at hl 1 rfl) ?_
      refine va_get (D := D) (ci := 0) (v := .ref (q 6)) (C := RX0) (T := TX0) (N := 4) hx hb hts hin_0 hown hK hP 4 rfl rfl 1 (by decide) lk_15 (fun _ h9 => h9) rfl dX0_fillSchedule_104 ?_
      refine lv_iload_n hx hb dX0_fillSchedule_107 rfl (lv_at hl 3 rfl) ?_
      refine lv_iconst (v := (nI (2))) hx hb dX0_fillSchedule_108 (by decide) ?_
      refine lv_isub hx hb dX0_fillSchedule_109 ?_
      refine kp_i (y := (nI (i + 14))) (kn_sub (by omega)) ?_
      refine kb_iald hx hb hK hP 6 1 rfl rfl (i + 14) (rfl) (by omega) (by decide) dX0_fillSchedule_110 ?_
      refine lv_istore (lv' := [(4, .int (sc1 (i + 14))), (3, .int (sc1 (i + 1))), (0, .ref (q 4)), (1, .int (nI f)), (2, .int (nI (16 + i)))]) hx hb dX0_fillSchedule_111 hl (by decide) rfl (fun ls hl => ?_)
      refine lv_iload_n hx hb dX0_fillSchedule_113 rfl (lv_at hl 1 rfl) ?_
      refine lv_bipush (v := ((7 : Int32))) hx hb dX0_fillSchedule_114 (by decide) ?_
      refine kcs_i (As := [.int (sc1 (i + 1)), .int ((7 : Int32))]) (rest := []) ⟨hx, hb, hml, hown, hts⟩ (c_D_turn l D A q cB cI (wk q cB cI tl lv lb ln tp ll id ms sc1 st) ((sc1 (i + 1))) (((7 : Int32)))) (cwS 2 hts gX0_fillSchedule_X0_turn rfl rfl rfl (by decide +kernel) ⟨Nat.le_of_ble_eq_true rfl, Nat.le_of_ble_eq_true rfl⟩) hK hP hD hS hZ rfl hl.1 rfl (Nat.le_of_ble_eq_true rfl) ⟨Nat.zero_le _, Nat.zero_le _⟩ dX0_fillSchedule_116 (fun r_1 _ H locs hw hP hD hS => ?_)
      have hw : r_1 = (tn (sc1 (i + 1)) ((7 : Int32))) := hw
      subst hw
      have hP : va_P D vwCl (wk q cB cI tl lv lb ln tp ll id ms sc1 st) H := hP
      have hD : va_D A (wk q cB cI tl lv lb ln tp ll id ms sc1 st) := hD
      refine lv_iload_n hx hb dX0_fillSchedule_119 rfl (lv_at hl 1 rfl) ?_
      refine lv_bipush (v := ((18 : Int32))) hx hb dX0_fillSchedule_120 (by decide) ?_
      refine kcs_i (As := [.int (sc1 (i + 1)), .int ((18 : Int32))]) (rest := [.int (tn (sc1 (i + 1)) ((7 : Int32)))]) ⟨hx, hb, hml, hown, hts⟩ (c_D_turn l D A q cB cI (wk q cB cI tl lv lb ln tp ll id ms sc1 st) ((sc1 (i + 1))) (((18 : Int32)))) (cwS 2 hts gX0_fillSchedule_X0_turn rfl rfl rfl (by decide +kernel) ⟨Nat.le_of_ble_eq_true rfl, Nat.le_of_ble_eq_true rfl⟩) hK hP hD hS hZ rfl hl.1 rfl (Nat.le_of_ble_eq_true rfl) ⟨Nat.zero_le _, Nat.zero_le _⟩ dX0_fillSchedule_122 (fun r_2 _ H locs hw hP hD hS => ?_)
      have hw : r_2 = (tn (sc1 (i + 1)) ((18 : Int32))) := hw
      subst hw
      have hP : va_P D vwCl (wk q cB cI tl lv lb ln tp ll id ms sc1 st) H := hP
      have hD : va_D A (wk q cB cI tl lv lb ln tp ll id ms sc1 st) := hD
      refine lv_ixor hx hb dX0_fillSchedule_125 ?_
      refine lv_iload_n hx hb dX0_fillSchedule_126 rfl (lv_at hl 1 rfl) ?_
      refine lv_iconst (v := ((3 : Int32))) hx hb dX0_fillSchedule_127 (by decide) ?_
      refine lv_iushr hx hb dX0_fillSchedule_128 rfl ?_
      refine lv_ixor hx hb dX0_fillSchedule_129 ?_
      refine lv_istore (lv' := [(5, .int (((tn (sc1 (i + 1)) ((7 : Int32))) ^^^ (tn (sc1 (i + 1)) ((18 : Int32)))) ^^^ ((((sc1 (i + 1))).toUInt32 >>> ((((3 : Int32))).toUInt32 &&& Int32.toUInt32 31)).toInt32))), (4, .int (sc1 (i + 14))), (3, .int (sc1 (i + 1))), (0, .ref (q 4)), (1, .int (nI f)), (2, .int (nI (16 + i)))]) hx hb dX0_fillSchedule_130 hl (by decide) rfl (fun ls hl => ?_)
      refine lv_iload hx hb dX0_fillSchedule_132 (lv_at hl 1 rfl) ?_
      refine lv_bipush (v := ((17 : Int32))) hx hb dX0_fillSchedule_134 (by decide) ?_
      refine kcs_i (As := [.int (sc1 (i + 14)), .int ((17 : Int32))]) (rest := []) ⟨hx, hb, hml, hown, hts⟩ (c_D_turn l D A q cB cI (wk q cB cI tl lv lb ln tp ll id ms sc1 st) ((sc1 (i + 14))) (((17 : Int32)))) (cwS 2 hts gX0_fillSchedule_X0_turn rfl rfl rfl (by decide +kernel) ⟨Nat.le_of_ble_eq_true rfl, Nat.le_of_ble_eq_true rfl⟩) hK hP hD hS hZ rfl hl.1 rfl (Nat.le_of_ble_eq_true rfl) ⟨Nat.zero_le _, Nat.zero_le _⟩ dX0_fillSchedule_136 (fun r_3 _ H locs hw hP hD hS => ?_)
      have hw : r_3 = (tn (sc1 (i + 14)) ((17 : Int32))) := hw
      subst hw
      have hP : va_P D vwCl (wk q cB cI tl lv lb ln tp ll id ms sc1 st) H := hP
      have hD : va_D A (wk q cB cI tl lv lb ln tp ll id ms sc1 st) := hD
      refine lv_iload hx hb dX0_fillSchedule_139 (lv_at hl 1 rfl) ?_
      refine lv_bipush (v := ((19 : Int32))) hx hb dX0_fillSchedule_141 (by decide) ?_
      refine kcs_i (As := [.int (sc1 (i + 14)), .int ((19 : Int32))]) (rest := [.int (tn (sc1 (i + 14)) ((17 : Int32)))]) ⟨hx, hb, hml, hown, hts⟩ (c_D_turn l D A q cB cI (wk q cB cI tl lv lb ln tp ll id ms sc1 st) ((sc1 (i + 14))) (((19 : Int32)))) (cwS 2 hts gX0_fillSchedule_X0_turn rfl rfl rfl (by decide +kernel) ⟨Nat.le_of_ble_eq_true rfl, Nat.le_of_ble_eq_true rfl⟩) hK hP hD hS hZ rfl hl.1 rfl (Nat.le_of_ble_eq_true rfl) ⟨Nat.zero_le _, Nat.zero_le _⟩ dX0_fillSchedule_143 (fun r_4 _ H locs hw hP hD hS => ?_)
      have hw : r_4 = (tn (sc1 (i + 14)) ((19 : Int32))) := hw
      subst hw
      have hP : va_P D vwCl (wk q cB cI tl lv lb ln tp ll id ms sc1 st) H := hP
      have hD : va_D A (wk q cB cI tl lv lb ln tp ll id ms sc1 st) := hD
      refine lv_ixor hx hb dX0_fillSchedule_146 ?_
      refine lv_iload hx hb dX0_fillSchedule_147 (lv_at hl 1 rfl) ?_
      refine lv_bipush (v := ((10 : Int32))) hx hb dX0_fillSchedule_149 (by decide) ?_
      refine lv_iushr hx hb dX0_fillSchedule_151 rfl ?_
      refine lv_ixor hx hb dX0_fillSchedule_152 ?_
      refine lv_istore (lv' := [(6, .int (((tn (sc1 (i + 14)) ((17 : Int32))) ^^^ (tn (sc1 (i + 14)) ((19 : Int32)))) ^^^ ((((sc1 (i + 14))).toUInt32 >>> ((((10 : Int32))).toUInt32 &&& Int32.toUInt32 31)).toInt32))), (5, .int (((tn (sc1 (i + 1)) ((7 : Int32))) ^^^ (tn (sc1 (i + 1)) ((18 : Int32)))) ^^^ ((((sc1 (i + 1))).toUInt32 >>> ((((3 : Int32))).toUInt32 &&& Int32.toUInt32 31)).toInt32))), (4, .int (sc1 (i + 14))), (3, .int (sc1 (i + 1))), (0, .ref (q 4)), (1, .int (nI f)), (2, .int (nI (16 + i)))]) hx hb dX0_fillSchedule_153 hl (by decide) rfl (fun ls hl => ?_)
      refine lv_aload_n hx hb dX0_fillSchedule_155 rfl (lv_at hl 4 rfl) ?_
      refine va_get (D := D) (ci := 0) (v := .ref (q 6)) (C := RX0) (T := TX0) (N := 4) hx hb hts hin_0 hown hK hP 4 rfl rfl 1 (by decide) lk_15 (fun _ h9 => h9) rfl dX0_fillSchedule_156 ?_
      refine lv_iload_n hx hb dX0_fillSchedule_159 rfl (lv_at hl 6 rfl) ?_
      refine lv_aload_n hx hb dX0_fillSchedule_160 rfl (lv_at hl 4 rfl) ?_
      refine va_get (D := D) (ci := 0) (v := .ref (q 6)) (C := RX0) (T := TX0) (N := 4) hx hb hts hin_0 hown hK hP 4 rfl rfl 1 (by decide) lk_15 (fun _ h9 => h9) rfl dX0_fillSchedule_161 ?_
      refine lv_iload_n hx hb dX0_fillSchedule_164 rfl (lv_at hl 6 rfl) ?_
      refine lv_bipush (v := (nI (16))) hx hb dX0_fillSchedule_165 (by decide) ?_
      refine lv_isub hx hb dX0_fillSchedule_167 ?_
      refine kp_i (y := (nI (i))) (kn_sub (by omega)) ?_
      refine kb_iald hx hb hK hP 6 1 rfl rfl (i) (rfl) (by omega) (by decide) dX0_fillSchedule_168 ?_
      refine lv_iload hx hb dX0_fillSchedule_169 (lv_at hl 1 rfl) ?_
      refine lv_iadd hx hb dX0_fillSchedule_171 ?_
      refine lv_aload_n hx hb dX0_fillSchedule_172 rfl (lv_at hl 4 rfl) ?_
      refine va_get (D := D) (ci := 0) (v := .ref (q 6)) (C := RX0) (T := TX0) (N := 4) hx hb hts hin_0 hown hK hP 4 rfl rfl 1 (by decide) lk_15 (fun _ h9 => h9) rfl dX0_fillSchedule_173 ?_
      refine lv_iload_n hx hb dX0_fillSchedule_176 rfl (lv_at hl 6 rfl) ?_
      refine lv_bipush (v := (nI (7))) hx hb dX0_fillSchedule_177 (by decide) ?_
      refine lv_isub hx hb dX0_fillSchedule_179 ?_
      refine kp_i (y := (nI (i + 9))) (kn_sub (by omega)) ?_
      refine kb_iald hx hb hK hP 6 1 rfl rfl (i + 9) (rfl) (by omega) (by decide) dX0_fillSchedule_180 ?_
      refine lv_iadd hx hb dX0_fillSchedule_181 ?_
      refine lv_iload hx hb dX0_fillSchedule_182 (lv_at hl 0 rfl) ?_
      refine lv_iadd hx hb dX0_fillSchedule_184 ?_
      refine kb_iast hx hb hK hP hD hS 6 1 rfl rfl (16 + i) (rfl) (by omega) (by decide) dX0_fillSchedule_185 (fun H locs hP hD hS => ?_)
      have hP : va_P D vwCl (wk q cB cI tl lv lb ln tp ll id ms (upd sc1 (16 + i) (((((sc1 (i)) + (((tn (sc1 (i + 1)) ((7 : Int32))) ^^^ (tn (sc1 (i + 1)) ((18 : Int32)))) ^^^ ((((sc1 (i + 1))).toUInt32 >>> ((((3 : Int32))).toUInt32 &&& Int32.toUInt32 31)).toInt32))) + (sc1 (i + 9))) + (((tn (sc1 (i + 14)) ((17 : Int32))) ^^^ (tn (sc1 (i + 14)) ((19 : Int32)))) ^^^ ((((sc1 (i + 14))).toUInt32 >>> ((((10 : Int32))).toUInt32 &&& Int32.toUInt32 31)).toInt32))))) st) H := hP
      have hD : va_D A (wk q cB cI tl lv lb ln tp ll id ms (upd sc1 (16 + i) (((((sc1 (i)) + (((tn (sc1 (i + 1)) ((7 : Int32))) ^^^ (tn (sc1 (i + 1)) ((18 : Int32)))) ^^^ ((((sc1 (i + 1))).toUInt32 >>> ((((3 : Int32))).toUInt32 &&& Int32.toUInt32 31)).toInt32))) + (sc1 (i + 9))) + (((tn (sc1 (i + 14)) ((17 : Int32))) ^^^ (tn (sc1 (i + 14)) ((19 : Int32)))) ^^^ ((((sc1 (i + 14))).toUInt32 >>> ((((10 : Int32))).toUInt32 &&& Int32.toUInt32 31)).toInt32))))) st) := hD
      refine lv_iinc (v := (nI (16 + (i + 1)))) (lv' := [(2, .int (nI (16 + (i + 1)))), (6, .int (((tn (sc1 (i + 14)) ((17 : Int32))) ^^^ (tn (sc1 (i + 14)) ((19 : Int32)))) ^^^ ((((sc1 (i + 14))).toUInt32 >>> ((((10 : Int32))).toUInt32 &&& Int32.toUInt32 31)).toInt32))), (5, .int (((tn (sc1 (i + 1)) ((7 : Int32))) ^^^ (tn (sc1 (i + 1)) ((18 : Int32)))) ^^^ ((((sc1 (i + 1))).toUInt32 >>> ((((3 : Int32))).toUInt32 &&& Int32.toUInt32 31)).toInt32))), (4, .int (sc1 (i + 14))), (3, .int (sc1 (i + 1))), (0, .ref (q 4)), (1, .int (nI f))]) hx hb dX0_fillSchedule_186 hl (k := 6) rfl (kn_inc _ _ 1 (by omega)) (by decide) rfl (fun ls hl => ?_)
      refine lv_goto (tgt := 87) hx hb dX0_fillSchedule_189 (by decide) ?_
      exact ih hlt _ _ _ ⟨_, swl_back hI_0 rfl, hP, hD, hS, (lv_sub hl [5, 6, 0] rfl)⟩
  · have c_5 : i < 16 := kn_nle c_5 (by omega) (by omega)
    have hlt : i < 16 := c_5
    refine lv_iload_n hx hb dX0_fillSchedule_8 rfl (lv_at hl 1 rfl) ?_
    refine lv_iconst (v := (nI (4))) hx hb dX0_fillSchedule_9 (by decide) ?_
    refine lv_iload_n hx hb dX0_fillSchedule_10 rfl (lv_at hl 2 rfl) ?_
    refine lv_imul hx hb dX0_fillSchedule_11 ?_
    refine kp_i (pk_mul _ _) ?_
    refine lv_iadd hx hb dX0_fillSchedule_12 ?_
    refine kp_i (nI_add _ _) ?_
    refine lv_istore_n (lv' := [(3, .int (nI (f + (4 * i)))), (0, .ref (q 4)), (1, .int (nI f)), (2, .int (nI i))]) hx hb dX0_fillSchedule_13 rfl hl (by decide) rfl (fun ls hl => ?_)
    refine lv_aload_n hx hb dX0_fillSchedule_14 rfl (lv_at hl 1 rfl) ?_
    refine va_get (D := D) (ci := 0) (v := .ref (q 6)) (C := RX0) (T := TX0) (N := 4) hx hb hts hin_0 hown hK hP 4 rfl rfl 1 (by decide) lk_15 (fun _ h9 => h9) rfl dX0_fillSchedule_15 ?_
    refine lv_iload_n hx hb dX0_fillSchedule_18 rfl (lv_at hl 3 rfl) ?_
    refine lv_aload_n hx hb dX0_fillSchedule_19 rfl (lv_at hl 1 rfl) ?_
    refine va_get (D := D) (ci := 0) (v := .ref (q 5)) (C := RX0) (T := TX0) (N := 4) hx hb hts hin_0 hown hK hP 4 rfl rfl 0 (by decide) lk_11 (fun _ h9 => h9) rfl dX0_fillSchedule_20 ?_
    refine lv_iload_n hx hb dX0_fillSchedule_23 rfl (lv_at hl 0 rfl) ?_
    refine kb_bald hx hb hK hP 5 0 rfl rfl (f + (4 * i)) (rfl) (by omega) (by decide) dX0_fillSchedule_24 ?_
    refine lv_sipush (v := ((255 : Int32))) hx hb dX0_fillSchedule_25 (by decide) ?_
    refine lv_iand hx hb dX0_fillSchedule_28 ?_
    refine lv_bipush (v := ((24 : Int32))) hx hb dX0_fillSchedule_29 (by decide) ?_
    refine lv_ishl hx hb dX0_fillSchedule_31 ?_
    refine lv_aload_n hx hb dX0_fillSchedule_32 rfl (lv_at hl 1 rfl) ?_
    refine va_get (D := D) (ci := 0) (v := .ref (q 5)) (C := RX0) (T := TX0) (N := 4) hx hb hts hin_0 hown hK hP 4 rfl rfl 0 (by decide) lk_11 (fun _ h9 => h9) rfl dX0_fillSchedule_33 ?_
    refine lv_iload_n hx hb dX0_fillSchedule_36 rfl (lv_at hl 0 rfl) ?_
    refine lv_iconst (v := (nI (1))) hx hb dX0_fillSchedule_37 (by decide) ?_
    refine lv_iadd hx hb dX0_fillSchedule_38 ?_
    refine kp_i (nI_add _ _) ?_
    refine kb_bald hx hb hK hP 5 0 rfl rfl ((f + (4 * i)) + 1) (rfl) (by omega) (by decide) dX0_fillSchedule_39 ?_
    refine lv_sipush (v := ((255 : Int32))) hx hb dX0_fillSchedule_40 (by decide) ?_
    refine lv_iand hx hb dX0_fillSchedule_43 ?_
    refine lv_bipush (v := ((16 : Int32))) hx hb dX0_fillSchedule_44 (by decide) ?_
    refine lv_ishl hx hb dX0_fillSchedule_46 ?_
    refine lv_ior hx hb dX0_fillSchedule_47 ?_
    refine lv_aload_n hx hb dX0_fillSchedule_48 rfl (lv_at hl 1 rfl) ?_
    refine va_get (D := D) (ci := 0) (v := .ref (q 5)) (C := RX0) (T := TX0) (N := 4) hx hb hts hin_0 hown hK hP 4 rfl rfl 0 (by decide) lk_11 (fun _ h9 => h9) rfl dX0_fillSchedule_49 ?_
    refine lv_iload_n hx hb dX0_fillSchedule_52 rfl (lv_at hl 0 rfl) ?_
    refine lv_iconst (v := (nI (2))) hx hb dX0_fillSchedule_53 (by decide) ?_
    refine lv_iadd hx hb dX0_fillSchedule_54 ?_
    refine kp_i (nI_add _ _) ?_
    refine kb_bald hx hb hK hP 5 0 rfl rfl ((f + (4 * i)) + 2) (rfl) (by omega) (by decide) dX0_fillSchedule_55 ?_
    refine lv_sipush (v := ((255 : Int32))) hx hb dX0_fillSchedule_56 (by decide) ?_
    refine lv_iand hx hb dX0_fillSchedule_59 ?_
    refine lv_bipush (v := ((8 : Int32))) hx hb dX0_fillSchedule_60 (by decide) ?_
    refine lv_ishl hx hb dX0_fillSchedule_62 ?_
    refine lv_ior hx hb dX0_fillSchedule_63 ?_
    refine lv_aload_n hx hb dX0_fillSchedule_64 rfl (lv_at hl 1 rfl) ?_
    refine va_get (D := D) (ci := 0) (v := .ref (q 5)) (C := RX0) (T := TX0) (N := 4) hx hb hts hin_0 hown hK hP 4 rfl rfl 0 (by decide) lk_11 (fun _ h9 => h9) rfl dX0_fillSchedule_65 ?_
    refine lv_iload_n hx hb dX0_fillSchedule_68 rfl (lv_at hl 0 rfl) ?_
    refine lv_iconst (v := (nI (3))) hx hb dX0_fillSchedule_69 (by decide) ?_
    refine lv_iadd hx hb dX0_fillSchedule_70 ?_
    refine kp_i (nI_add _ _) ?_
    refine kb_bald hx hb hK hP 5 0 rfl rfl ((f + (4 * i)) + 3) (rfl) (by omega) (by decide) dX0_fillSchedule_71 ?_
    refine lv_sipush (v := ((255 : Int32))) hx hb dX0_fillSchedule_72 (by decide) ?_
    refine lv_iand hx hb dX0_fillSchedule_75 ?_
    refine lv_ior hx hb dX0_fillSchedule_76 ?_
    refine kb_iast hx hb hK hP hD hS 6 1 rfl rfl (i) (rfl) (by omega) (by decide) dX0_fillSchedule_77 (fun H locs hP hD hS => ?_)
    have hP : va_P D vwCl (wk q cB cI tl lv lb ln tp ll id ms (upd sc1 (i) (((((((ms (f + (4 * i))) &&& ((255 : Int32))) <<< (((24 : Int32)) &&& 31)) ||| (((ms ((f + (4 * i)) + 1)) &&& ((255 : Int32))) <<< (((16 : Int32)) &&& 31))) ||| (((ms ((f + (4 * i)) + 2)) &&& ((255 : Int32))) <<< (((8 : Int32)) &&& 31))) ||| ((ms ((f + (4 * i)) + 3)) &&& ((255 : Int32)))))) st) H := hP
    have hD : va_D A (wk q cB cI tl lv lb ln tp ll id ms (upd sc1 (i) (((((((ms (f + (4 * i))) &&& ((255 : Int32))) <<< (((24 : Int32)) &&& 31)) ||| (((ms ((f + (4 * i)) + 1)) &&& ((255 : Int32))) <<< (((16 : Int32)) &&& 31))) ||| (((ms ((f + (4 * i)) + 2)) &&& ((255 : Int32))) <<< (((8 : Int32)) &&& 31))) ||| ((ms ((f + (4 * i)) + 3)) &&& ((255 : Int32)))))) st) := hD
    refine lv_iinc (v := (nI (i + 1))) (lv' := [(2, .int (nI (i + 1))), (3, .int (nI (f + (4 * i)))), (0, .ref (q 4)), (1, .int (nI f))]) hx hb dX0_fillSchedule_78 hl (k := 3) rfl (kn_inc _ _ 1 rfl) (by decide) rfl (fun ls hl => ?_)
    refine lv_goto (tgt := 2) hx hb dX0_fillSchedule_81 (by decide) ?_
    exact ih hlt _ _ _ ⟨_, upd_s hI_0 rfl, hP, hD, hS, (lv_sub hl [2, 3, 0] rfl)⟩

set_option maxHeartbeats 4000000 in
set_option maxRecDepth 100000 in
/-- mixBlock: the block is mixed in -/
theorem c_D_mixBlock (l : Launch) (D : va_G) (A : Nat → Prop) (q : Nat → Nat) (cB cI : ClassId) (tl lv lb ln : Nat) (tp : Nat → Int32) (ll : Nat → Nat) (id ms sc st : Nat → Int32) : Kv (S := (Nat → Int32)) l yX0_mixBlock wsX0_mixBlock { frames := 1, cells := 0, slots := 0, locals := 21 } D vwCl [(cB, .byte), (cI, .int)] A (zk q) [.ref (q 4)] (wk q cB cI tl lv lb ln tp ll id ms sc st) (fun u => ∀ j, j < 8 → u j = mx st sc j) (fun u => wk q cB cI tl lv lb ln tp ll id ms sc u) := by
  refine Met.ofW (cc := cX0_mixBlock) (maxL := 15) (ret := none) (by decide) rfl ?_
  intro p e s m args below meth c s₁ B hml hv
  obtain ⟨rfl, hP, hK, hD, hZ⟩ := hv
  have hx := B.exec
  have hb := B.bytes
  have hr := B.returns
  have hts := atoms_spec (ws := wsX0_mixBlock) B.pre
  have hown : s.vm.findClass RX0 = some m.cls := findClass_of_methodNamed B.named
  have hlocks := B.notSynchronized
  have hS : va_S A s.heap s.heap [] := va_S.rf
  have hin_0 : ∀ w ∈ u_ws RX0 TX0 4, w ∈ wsX0_mixBlock := by decide +kernel
  have lk_15 := hts (.fieldLink RX0 15 "RootDesk$Digest" "schedule" "[I") (by decide +kernel)
  have lk_19 := hts (.fieldLink RX0 19 "RootDesk$Digest" "state" "[I") (by decide +kernel)
  have lk_51 := hts (.fieldLink RX0 51 "RootDesk$Digest" "ROUND_WORDS" "[I") (by decide +kernel)
  have hl := lv_entry ([.ref (q 4)]) (n := 15) (Nat.le_of_ble_eq_true rfl)
  rw [lg_entry_eq]
  generalize (lg_sl ([.ref (q 4)]) ++ List.replicate (15 - (lg_sl ([.ref (q 4)])).length) Slot.unset).toArray = ls at hl ⊢
  have hl : lv_has ls 15 [(0, .ref (q 4))] := hl
  refine lv_aload_n hx hb dX0_mixBlock_0 rfl (lv_at hl 0 rfl) ?_
  refine va_get (D := D) (ci := 0) (v := .ref (q 7)) (C := RX0) (T := TX0) (N := 4) hx hb hts hin_0 hown hK hP 4 rfl rfl 2 (by decide) lk_19 (fun _ h9 => h9) rfl dX0_mixBlock_1 ?_
  refine lv_iconst (v := ((0 : Int32))) hx hb dX0_mixBlock_4 (by decide) ?_
  refine kb_iald hx hb hK hP 7 1 rfl rfl (0) (rfl) (by decide) (by decide) dX0_mixBlock_5 ?_
  refine lv_istore_n (lv' := [(1, .int (st (0))), (0, .ref (q 4))]) hx hb dX0_mixBlock_6 rfl hl (by decide) rfl (fun ls hl => ?_)
  refine lv_aload_n hx hb dX0_mixBlock_7 rfl (lv_at hl 1 rfl) ?_
  refine va_get (D := D) (ci := 0) (v := .ref (q 7)) (C := RX0) (T := TX0) (N := 4) hx hb hts hin_0 hown hK hP 4 rfl rfl 2 (by decide) lk_19 (fun _ h9 => h9) rfl dX0_mixBlock_8 ?_
  refine lv_iconst (v := ((1 : Int32))) hx hb dX0_mixBlock_11 (by decide) ?_
  refine kb_iald hx hb hK hP 7 1 rfl rfl (1) (rfl) (by decide) (by decide) dX0_mixBlock_12 ?_
  refine lv_istore_n (lv' := [(2, .int (st (1))), (1, .int (st (0))), (0, .ref (q 4))]) hx hb dX0_mixBlock_13 rfl hl (by decide) rfl (fun ls hl => ?_)
  refine lv_aload_n hx hb dX0_mixBlock_14 rfl (lv_at hl 2 rfl) ?_
  refine va_get (D := D) (ci := 0) (v := .ref (q 7)) (C := RX0) (T := TX0) (N := 4) hx hb hts hin_0 hown hK hP 4 rfl rfl 2 (by decide) lk_19 (fun _ h9 => h9) rfl dX0_mixBlock_15 ?_
  refine lv_iconst (v := ((2 : Int32))) hx hb dX0_mixBlock_18 (by decide) ?_
  refine kb_iald hx hb hK hP 7 1 rfl rfl (2) (rfl) (by decide) (by decide) dX0_mixBlock_19 ?_
  refine lv_istore_n (lv' := [(3, .int (st (2))), (2, .int (st (1))), (1, .int (st (0))), (0, .ref (q 4))]) hx hb dX0_mixBlock_20 rfl hl (by decide) rfl (fun ls hl => ?_)
  refine lv_aload_n hx hb dX0_mixBlock_21 rfl (lv_at hl 3 rfl) ?_
  refine va_get (D := D) (ci := 0) (v := .ref (q 7)) (C := RX0) (T := TX0) (N := 4) hx hb hts hin_0 hown hK hP 4 rfl rfl 2 (by decide) lk_19 (fun _ h9 => h9) rfl dX0_mixBlock_22 ?_
  refine lv_iconst (v := ((3 : Int32))) hx hb dX0_mixBlock_25 (by decide) ?_
  refine kb_iald hx hb hK hP 7 1 rfl rfl (3) (rfl) (by decide) (by decide) dX0_mixBlock_26 ?_
  refine lv_istore (lv' := [(4, .int (st (3))), (3, .int (st (2))), (2, .int (st (1))), (1, .int (st (0))), (0, .ref (q 4))]) hx hb dX0_mixBlock_27 hl (by decide) rfl (fun ls hl => ?_)
  refine lv_aload_n hx hb dX0_mixBlock_29 rfl (lv_at hl 4 rfl) ?_
  refine va_get (D := D) (ci := 0) (v := .ref (q 7)) (C := RX0) (T := TX0) (N := 4) hx hb hts hin_0 hown hK hP 4 rfl rfl 2 (by decide) lk_19 (fun _ h9 => h9) rfl dX0_mixBlock_30 ?_
  refine lv_iconst (v := ((4 : Int32))) hx hb dX0_mixBlock_33 (by decide) ?_
  refine kb_iald hx hb hK hP 7 1 rfl rfl (4) (rfl) (by decide) (by decide) dX0_mixBlock_34 ?_
  refine lv_istore (lv' := [(5, .int (st (4))), (4, .int (st (3))), (3, .int (st (2))), (2, .int (st (1))), (1, .int (st (0))), (0, .ref (q 4))]) hx hb dX0_mixBlock_35 hl (by decide) rfl (fun ls hl => ?_)
  refine lv_aload_n hx hb dX0_mixBlock_37 rfl (lv_at hl 5 rfl) ?_
  refine va_get (D := D) (ci := 0) (v := .ref (q 7)) (C := RX0) (T := TX0) (N := 4) hx hb hts hin_0 hown hK hP 4 rfl rfl 2 (by decide) lk_19 (fun _ h9 => h9) rfl dX0_mixBlock_38 ?_
  refine lv_iconst (v := ((5 : Int32))) hx hb dX0_mixBlock_41 (by decide) ?_
  refine kb_iald hx hb hK hP 7 1 rfl rfl (5) (rfl) (by decide) (by decide) dX0_mixBlock_42 ?_
  refine lv_istore (lv' := [(6, .int (st (5))), (5, .int (st (4))), (4, .int (st (3))), (3, .int (st (2))), (2, .int (st (1))), (1, .int (st (0))), (0, .ref (q 4))]) hx hb dX0_mixBlock_43 hl (by decide) rfl (fun ls hl => ?_)
  refine lv_aload_n hx hb dX0_mixBlock_45 rfl (lv_at hl 6 rfl) ?_
  refine va_get (D := D) (ci := 0) (v := .ref (q 7)) (C := RX0) (T := TX0) (N := 4) hx hb hts hin_0 hown hK hP 4 rfl rfl 2 (by decide) lk_19 (fun _ h9 => h9) rfl dX0_mixBlock_46 ?_
  refine lv_bipush (v := ((6 : Int32))) hx hb dX0_mixBlock_49 (by decide) ?_
  refine kb_iald hx hb hK hP 7 1 rfl rfl (6) (rfl) (by decide) (by decide) dX0_mixBlock_51 ?_
  refine lv_istore (lv' := [(7, .int (st (6))), (6, .int (st (5))), (5, .int (st (4))), (4, .int (st (3))), (3, .int (st (2))), (2, .int (st (1))), (1, .int (st (0))), (0, .ref (q 4))]) hx hb dX0_mixBlock_52 hl (by decide) rfl (fun ls hl => ?_)
  refine lv_aload_n hx hb dX0_mixBlock_54 rfl (lv_at hl 7 rfl) ?_
  refine va_get (D := D) (ci := 0) (v := .ref (q 7)) (C := RX0) (T := TX0) (N := 4) hx hb hts hin_0 hown hK hP 4 rfl rfl 2 (by decide) lk_19 (fun _ h9 => h9) rfl dX0_mixBlock_55 ?_
  refine lv_bipush (v := ((7 : Int32))) hx hb dX0_mixBlock_58 (by decide) ?_
  refine kb_iald hx hb hK hP 7 1 rfl rfl (7) (rfl) (by decide) (by decide) dX0_mixBlock_60 ?_
  refine lv_istore (lv' := [(8, .int (st (7))), (7, .int (st (6))), (6, .int (st (5))), (5, .int (st (4))), (4, .int (st (3))), (3, .int (st (2))), (2, .int (st (1))), (1, .int (st (0))), (0, .ref (q 4))]) hx hb dX0_mixBlock_61 hl (by decide) rfl (fun ls hl => ?_)
  refine lv_iconst (v := (nI (0))) hx hb dX0_mixBlock_63 (by decide) ?_
  refine lv_istore (lv' := [(9, .int (nI 0)), (8, .int (st (7))), (7, .int (st (6))), (6, .int (st (5))), (5, .int (st (4))), (4, .int (st (3))), (3, .int (st (2))), (2, .int (st (1))), (1, .int (st (0))), (0, .ref (q 4))]) hx hb dX0_mixBlock_64 hl (by decide) rfl (fun ls hl => ?_)
  refine kp_lp (hd := 66) (nn := 64) (fun (i : Nat) (H : Heap) (locs : List Loc) (ls : Array Slot) => ∃ (xa xb xc xd xe xf xg xh : Int32), (rds sc (st 0, st 1, st 2, st 3, st 4, st 5, st 6, st 7) i = (xa, xb, xc, xd, xe, xf, xg, xh)) ∧ va_P D vwCl (wk q cB cI tl lv lb ln tp ll id ms sc st) H ∧ va_D A (wk q cB cI tl lv lb ln tp ll id ms sc st) ∧ va_S A s.heap H locs ∧ lv_has ls 15 [(0, .ref (q 4)), (1, .int xa), (2, .int xb), (3, .int xc), (4, .int xd), (5, .int xe), (6, .int xf), (7, .int xg), (8, .int xh), (9, .int (nI i))]) ?_ 0 (by omega) _ _ _ ⟨_, _, _, _, _, _, _, _, rfl, hP, hD, hS, (lv_sub hl [9, 8, 7, 6, 5, 4, 3, 2, 1, 0] rfl)⟩
  intro i hiN H locs ls hI ih
  obtain ⟨xa, xb, xc, xd, xe, xf, xg, xh, hI_0, hP, hD, hS, hl⟩ := hI
  refine lv_iload hx hb dX0_mixBlock_66 (lv_at hl 9 rfl) ?_
  refine lv_bipush (v := (nI (64))) hx hb dX0_mixBlock_68 (by decide) ?_
  refine lv_icmp_ge (tgt := 213) hx hb dX0_mixBlock_70 (by decide) (fun c_70 => ?_) (fun c_70 => ?_)
  · have c_70 : 64 ≤ i := kn_le c_70 (by omega) (by omega)
    have e9 : 64 = i := by omega
    subst e9
    refine lv_aload_n hx hb dX0_mixBlock_213 rfl (lv_at hl 0 rfl) ?_
    refine va_get (D := D) (ci := 0) (v := .ref (q 7)) (C := RX0) (T := TX0) (N := 4) hx hb hts hin_0 hown hK hP 4 rfl rfl 2 (by decide) lk_19 (fun _ h9 => h9) rfl dX0_mixBlock_214 ?_
    refine lv_iconst (v := ((0 : Int32))) hx hb dX0_mixBlock_217 (by decide) ?_
    refine lv_dup2_11 hx hb dX0_mixBlock_218 rfl rfl ?_
    refine kb_iald hx hb hK hP 7 1 rfl rfl (0) (rfl) (by decide) (by decide) dX0_mixBlock_219 ?_
    refine lv_iload_n hx hb dX0_mixBlock_220 rfl (lv_at hl 1 rfl) ?_
    refine lv_iadd hx hb dX0_mixBlock_221 ?_
    refine kb_iast hx hb hK hP hD hS 7 1 rfl rfl (0) (rfl) (by decide) (by decide) dX0_mixBlock_222 (fun H locs hP hD hS => ?_)
    have hP : va_P D vwCl (wk q cB cI tl lv lb ln tp ll id ms sc (upd st (0) (((st (0)) + (xa))))) H := hP
    have hD : va_D A (wk q cB cI tl lv lb ln tp ll id ms sc (upd st (0) (((st (0)) + (xa))))) := hD
    refine lv_aload_n hx hb dX0_mixBlock_223 rfl (lv_at hl 0 rfl) ?_
    refine va_get (D := D) (ci := 0) (v := .ref (q 7)) (C := RX0) (T := TX0) (N := 4) hx hb hts hin_0 hown hK hP 4 rfl rfl 2 (by decide) lk_19 (fun _ h9 => h9) rfl dX0_mixBlock_224 ?_
    refine lv_iconst (v := ((1 : Int32))) hx hb dX0_mixBlock_227 (by decide) ?_
    refine lv_dup2_11 hx hb dX0_mixBlock_228 rfl rfl ?_
    refine kb_iald hx hb hK hP 7 1 rfl rfl (1) (rfl) (by decide) (by decide) dX0_mixBlock_229 ?_
    refine lv_iload_n hx hb dX0_mixBlock_230 rfl (lv_at hl 2 rfl) ?_
    refine lv_iadd hx hb dX0_mixBlock_231 ?_
    refine kb_iast hx hb hK hP hD hS 7 1 rfl rfl (1) (rfl) (by decide) (by decide) dX0_mixBlock_232 (fun H locs hP hD hS => ?_)
    have hP : va_P D vwCl (wk q cB cI tl lv lb ln tp ll id ms sc (upd (upd st (0) (((st (0)) + (xa)))) (1) ((((upd st (0) (((st (0)) + (xa)))) (1)) + (xb))))) H := hP
    have hD : va_D A (wk q cB cI tl lv lb ln tp ll id ms sc (upd (upd st (0) (((st (0)) + (xa)))) (1) ((((upd st (0) (((st (0)) + (xa)))) (1)) + (xb))))) := hD
    refine lv_aload_n hx hb dX0_mixBlock_233 rfl (lv_at hl 0 rfl) ?_
    refine va_get (D := D) (ci := 0) (v := .ref (q 7)) (C := RX0) (T := TX0) (N := 4) hx hb hts hin_0 hown hK hP 4 rfl rfl 2 (by decide) lk_19 (fun _ h9 => h9) rfl dX0_mixBlock_234 ?_
    refine lv_iconst (v := ((2 : Int32))) hx hb dX0_mixBlock_237 (by decide) ?_
    refine lv_dup2_11 hx hb dX0_mixBlock_238 rfl rfl ?_
    refine kb_iald hx hb hK hP 7 1 rfl rfl (2) (rfl) (by decide) (by decide) dX0_mixBlock_239 ?_
    refine lv_iload_n hx hb dX0_mixBlock_240 rfl (lv_at hl 3 rfl) ?_
    refine lv_iadd hx hb dX0_mixBlock_241 ?_
    refine kb_iast hx hb hK hP hD hS 7 1 rfl rfl (2) (rfl) (by decide) (by decide) dX0_mixBlock_242 (fun H locs hP hD hS => ?_)
    have hP : va_P D vwCl (wk q cB cI tl lv lb ln tp ll id ms sc (upd (upd (upd st (0) (((st (0)) + (xa)))) (1) ((((upd st (0) (((st (0)) + (xa)))) (1)) + (xb)))) (2) ((((upd (upd st (0) (((st (0)) + (xa)))) (1) ((((upd st (0) (((st (0)) + (xa)))) (1)) + (xb)))) (2)) + (xc))))) H := hP
    have hD : va_D A (wk q cB cI tl lv lb ln tp ll id ms sc (upd (upd (upd st (0) (((st (0)) + (xa)))) (1) ((((upd st (0) (((st (0)) + (xa)))) (1)) + (xb)))) (2) ((((upd (upd st (0) (((st (0)) + (xa)))) (1) ((((upd st (0) (((st (0)) + (xa)))) (1)) + (xb)))) (2)) + (xc))))) := hD
    refine lv_aload_n hx hb dX0_mixBlock_243 rfl (lv_at hl 0 rfl) ?_
    refine va_get (D := D) (ci := 0) (v := .ref (q 7)) (C := RX0) (T := TX0) (N := 4) hx hb hts hin_0 hown hK hP 4 rfl rfl 2 (by decide) lk_19 (fun _ h9 => h9) rfl dX0_mixBlock_244 ?_
    refine lv_iconst (v := ((3 : Int32))) hx hb dX0_mixBlock_247 (by decide) ?_
    refine lv_dup2_11 hx hb dX0_mixBlock_248 rfl rfl ?_
    refine kb_iald hx hb hK hP 7 1 rfl rfl (3) (rfl) (by decide) (by decide) dX0_mixBlock_249 ?_
    refine lv_iload hx hb dX0_mixBlock_250 (lv_at hl 4 rfl) ?_
    refine lv_iadd hx hb dX0_mixBlock_252 ?_
    refine kb_iast hx hb hK hP hD hS 7 1 rfl rfl (3) (rfl) (by decide) (by decide) dX0_mixBlock_253 (fun H locs hP hD hS => ?_)
    have hP : va_P D vwCl (wk q cB cI tl lv lb ln tp ll id ms sc (upd (upd (upd (upd st (0) (((st (0)) + (xa)))) (1) ((((upd st (0) (((st (0)) + (xa)))) (1)) + (xb)))) (2) ((((upd (upd st (0) (((st (0)) + (xa)))) (1) ((((upd st (0) (((st (0)) + (xa)))) (1)) + (xb)))) (2)) + (xc)))) (3) ((((upd (upd (upd st (0) (((st (0)) + (xa)))) (1) ((((upd st (0) (((st (0)) + (xa)))) (1)) + (xb)))) (2) ((((upd (upd st (0) (((st (0)) + (xa)))) (1) ((((upd st (0) (((st (0)) + (xa)))) (1)) + (xb)))) (2)) + (xc)))) (3)) + (xd))))) H := hP
    have hD : va_D A (wk q cB cI tl lv lb ln tp ll id ms sc (upd (upd (upd (upd st (0) (((st (0)) + (xa)))) (1) ((((upd st (0) (((st (0)) + (xa)))) (1)) + (xb)))) (2) ((((upd (upd st (0) (((st (0)) + (xa)))) (1) ((((upd st (0) (((st (0)) + (xa)))) (1)) + (xb)))) (2)) + (xc)))) (3) ((((upd (upd (upd st (0) (((st (0)) + (xa)))) (1) ((((upd st (0) (((st (0)) + (xa)))) (1)) + (xb)))) (2) ((((upd (upd st (0) (((st (0)) + (xa)))) (1) ((((upd st (0) (((st (0)) + (xa)))) (1)) + (xb)))) (2)) + (xc)))) (3)) + (xd))))) := hD
    refine lv_aload_n hx hb dX0_mixBlock_254 rfl (lv_at hl 0 rfl) ?_
    refine va_get (D := D) (ci := 0) (v := .ref (q 7)) (C := RX0) (T := TX0) (N := 4) hx hb hts hin_0 hown hK hP 4 rfl rfl 2 (by decide) lk_19 (fun _ h9 => h9) rfl dX0_mixBlock_255 ?_
    refine lv_iconst (v := ((4 : Int32))) hx hb dX0_mixBlock_258 (by decide) ?_
    refine lv_dup2_11 hx hb dX0_mixBlock_259 rfl rfl ?_
    refine kb_iald hx hb hK hP 7 1 rfl rfl (4) (rfl) (by decide) (by decide) dX0_mixBlock_260 ?_
    refine lv_iload hx hb dX0_mixBlock_261 (lv_at hl 5 rfl) ?_
    refine lv_iadd hx hb dX0_mixBlock_263 ?_
    refine kb_iast hx hb hK hP hD hS 7 1 rfl rfl (4) (rfl) (by decide) (by decide) dX0_mixBlock_264 (fun H locs hP hD hS => ?_)
    have hP : va_P D vwCl (wk q cB cI tl lv lb ln tp ll id ms sc (upd (upd (upd (upd (upd st (0) (((st (0)) + (xa)))) (1) ((((upd st (0) (((st (0)) + (xa)))) (1)) + (xb)))) (2) ((((upd (upd st (0) (((st (0)) + (xa)))) (1) ((((upd st (0) (((st (0)) + (xa)))) (1)) + (xb)))) (2)) + (xc)))) (3) ((((upd (upd (upd st (0) (((st (0)) + (xa)))) (1) ((((upd st (0) (((st (0)) + (xa)))) (1)) + (xb)))) (2) ((((upd (upd st (0) (((st (0)) + (xa)))) (1) ((((upd st (0) (((st (0)) + (xa)))) (1)) + (xb)))) (2)) + (xc)))) (3)) + (xd)))) (4) ((((upd (upd (upd (upd st (0) (((st (0)) + (xa)))) (1) ((((upd st (0) (((st (0)) + (xa)))) (1)) + (xb)))) (2) ((((upd (upd st (0) (((st (0)) + (xa)))) (1) ((((upd st (0) (((st (0)) + (xa)))) (1)) + (xb)))) (2)) + (xc)))) (3) ((((upd (upd (upd st (0) (((st (0)) + (xa)))) (1) ((((upd st (0) (((st (0)) + (xa)))) (1)) + (xb)))) (2) ((((upd (upd st (0) (((st (0)) + (xa)))) (1) ((((upd st (0) (((st (0)) + (xa)))) (1)) + (xb)))) (2)) + (xc)))) (3)) + (xd)))) (4)) + (xe))))) H := hP
    have hD : va_D A (wk q cB cI tl lv lb ln tp ll id ms sc (upd (upd (upd (upd (upd st (0) (((st (0)) + (xa)))) (1) ((((upd st (0) (((st (0)) + (xa)))) (1)) + (xb)))) (2) ((((upd (upd st (0) (((st (0)) + (xa)))) (1) ((((upd st (0) (((st (0)) + (xa)))) (1)) + (xb)))) (2)) + (xc)))) (3) ((((upd (upd (upd st (0) (((st (0)) + (xa)))) (1) ((((upd st (0) (((st (0)) + (xa)))) (1)) + (xb)))) (2) ((((upd (upd st (0) (((st (0)) + (xa)))) (1) ((((upd st (0) (((st (0)) + (xa)))) (1)) + (xb)))) (2)) + (xc)))) (3)) + (xd)))) (4) ((((upd (upd (upd (upd st (0) (((st (0)) + (xa)))) (1) ((((upd st (0) (((st (0)) + (xa)))) (1)) + (xb)))) (2) ((((upd (upd st (0) (((st (0)) + (xa)))) (1) ((((upd st (0) (((st (0)) + (xa)))) (1)) + (xb)))) (2)) + (xc)))) (3) ((((upd (upd (upd st (0) (((st (0)) + (xa)))) (1) ((((upd st (0) (((st (0)) + (xa)))) (1)) + (xb)))) (2) ((((upd (upd st (0) (((st (0)) + (xa)))) (1) ((((upd st (0) (((st (0)) + (xa)))) (1)) + (xb)))) (2)) + (xc)))) (3)) + (xd)))) (4)) + (xe))))) := hD
    refine lv_aload_n hx hb dX0_mixBlock_265 rfl (lv_at hl 0 rfl) ?_
    refine va_get (D := D) (ci := 0) (v := .ref (q 7)) (C := RX0) (T := TX0) (N := 4) hx hb hts hin_0 hown hK hP 4 rfl rfl 2 (by decide) lk_19 (fun _ h9 => h9) rfl dX0_mixBlock_266 ?_
    refine lv_iconst (v := ((5 : Int32))) hx hb dX0_mixBlock_269 (by decide) ?_
    refine lv_dup2_11 hx hb dX0_mixBlock_270 rfl rfl ?_
    refine kb_iald hx hb hK hP 7 1 rfl rfl (5) (rfl) (by decide) (by decide) dX0_mixBlock_271 ?_
    refine lv_iload hx hb dX0_mixBlock_272 (lv_at hl 6 rfl) ?_
    refine lv_iadd hx hb dX0_mixBlock_274 ?_
    refine kb_iast hx hb hK hP hD hS 7 1 rfl rfl (5) (rfl) (by decide) (by decide) dX0_mixBlock_275 (fun H locs hP hD hS => ?_)
    have hP : va_P D vwCl (wk q cB cI tl lv lb ln tp ll id ms sc (upd (upd (upd (upd (upd (upd st (0) (((st (0)) + (xa)))) (1) ((((upd st (0) (((st (0)) + (xa)))) (1)) + (xb)))) (2) ((((upd (upd st (0) (((st (0)) + (xa)))) (1) ((((upd st (0) (((st (0)) + (xa)))) (1)) + (xb)))) (2)) + (xc)))) (3) ((((upd (upd (upd st (0) (((st (0)) + (xa)))) (1) ((((upd st (0) (((st (0)) + (xa)))) (1)) + (xb)))) (2) ((((upd (upd st (0) (((st (0)) + (xa)))) (1) ((((upd st (0) (((st (0)) + (xa)))) (1)) + (xb)))) (2)) + (xc)))) (3)) + (xd)))) (4) ((((upd (upd (upd (upd st (0) (((st (0)) + (xa)))) (1) ((((upd st (0) (((st (0)) + (xa)))) (1)) + (xb)))) (2) ((((upd (upd st (0) (((st (0)) + (xa)))) (1) ((((upd st (0) (((st (0)) + (xa)))) (1)) + (xb)))) (2)) + (xc)))) (3) ((((upd (upd (upd st (0) (((st (0)) + (xa)))) (1) ((((upd st (0) (((st (0)) + (xa)))) (1)) + (xb)))) (2) ((((upd (upd st (0) (((st (0)) + (xa)))) (1) ((((upd st (0) (((st (0)) + (xa)))) (1)) + (xb)))) (2)) + (xc)))) (3)) + (xd)))) (4)) + (xe)))) (5) ((((upd (upd (upd (upd (upd st (0) (((st (0)) + (xa)))) (1) ((((upd st (0) (((st (0)) + (xa)))) (1)) + (xb)))) (2) ((((upd (upd st (0) (((st (0)) + (xa)))) (1) ((((upd st (0) (((st (0)) + (xa)))) (1)) + (xb)))) (2)) + (xc)))) (3) ((((upd (upd (upd st (0) (((st (0)) + (xa)))) (1) ((((upd st (0) (((st (0)) + (xa)))) (1)) + (xb)))) (2) ((((upd (upd st (0) (((st (0)) + (xa)))) (1) ((((upd st (0) (((st (0)) + (xa)))) (1)) + (xb)))) (2)) + (xc)))) (3)) + (xd)))) (4) ((((upd (upd (upd (upd st (0) (((st (0)) + (xa)))) (1) ((((upd st (0) (((st (0)) + (xa)))) (1)) + (xb)))) (2) ((((upd (upd st (0) (((st (0)) + (xa)))) (1) ((((upd st (0) (((st (0)) + (xa)))) (1)) + (xb)))) (2)) + (xc)))) (3) ((((upd (upd (upd st (0) (((st (0)) + (xa)))) (1) ((((upd st (0) (((st (0)) + (xa)))) (1)) + (xb)))) (2) ((((upd (upd st (0) (((st (0)) + (xa)))) (1) ((((upd st (0) (((st (0)) + (xa)))) (1)) + (xb)))) (2)) + (xc)))) (3)) + (xd)))) (4)) + (xe)))) (5)) + (xf))))) H := hP
    have hD : va_D A (wk q cB cI tl lv lb ln tp ll id ms sc (upd (upd (upd (upd (upd (upd st (0) (((st (0)) + (xa)))) (1) ((((upd st (0) (((st (0)) + (xa)))) (1)) + (xb)))) (2) ((((upd (upd st (0) (((st (0)) + (xa)))) (1) ((((upd st (0) (((st (0)) + (xa)))) (1)) + (xb)))) (2)) + (xc)))) (3) ((((upd (upd (upd st (0) (((st (0)) + (xa)))) (1) ((((upd st (0) (((st (0)) + (xa)))) (1)) + (xb)))) (2) ((((upd (upd st (0) (((st (0)) + (xa)))) (1) ((((upd st (0) (((st (0)) + (xa)))) (1)) + (xb)))) (2)) + (xc)))) (3)) + (xd)))) (4) ((((upd (upd (upd (upd st (0) (((st (0)) + (xa)))) (1) ((((upd st (0) (((st (0)) + (xa)))) (1)) + (xb)))) (2) ((((upd (upd st (0) (((st (0)) + (xa)))) (1) ((((upd st (0) (((st (0)) + (xa)))) (1)) + (xb)))) (2)) + (xc)))) (3) ((((upd (upd (upd st (0) (((st (0)) + (xa)))) (1) ((((upd st (0) (((st (0)) + (xa)))) (1)) + (xb)))) (2) ((((upd (upd st (0) (((st (0)) + (xa)))) (1) ((((upd st (0) (((st (0)) + (xa)))) (1)) + (xb)))) (2)) + (xc)))) (3)) + (xd)))) (4)) + (xe)))) (5) ((((upd (upd (upd (upd (upd st (0) (((st (0)) + (xa)))) (1) ((((upd st (0) (((st (0)) + (xa)))) (1)) + (xb)))) (2) ((((upd (upd st (0) (((st (0)) + (xa)))) (1) ((((upd st (0) (((st (0)) + (xa)))) (1)) + (xb)))) (2)) + (xc)))) (3) ((((upd (upd (upd st (0) (((st (0)) + (xa)))) (1) ((((upd st (0) (((st (0)) + (xa)))) (1)) + (xb)))) (2) ((((upd (upd st (0) (((st (0)) + (xa)))) (1) ((((upd st (0) (((st (0)) + (xa)))) (1)) + (xb)))) (2)) + (xc)))) (3)) + (xd)))) (4) ((((upd (upd (upd (upd st (0) (((st (0)) + (xa)))) (1) ((((upd st (0) (((st (0)) + (xa)))) (1)) + (xb)))) (2) ((((upd (upd st (0) (((st (0)) + (xa)))) (1) ((((upd st (0) (((st (0)) + (xa)))) (1)) + (xb)))) (2)) + (xc)))) (3) ((((upd (upd (upd st (0) (((st (0)) + (xa)))) (1) ((((upd st (0) (((st (0)) + (xa)))) (1)) + (xb)))) (2) ((((upd (upd st (0) (((st (0)) + (xa)))) (1) ((((upd st (0) (((st (0)) + (xa)))) (1)) + (xb)))) (2)) + (xc)))) (3)) + (xd)))) (4)) + (xe)))) (5)) + (xf))))) := hD
    refine lv_aload_n hx hb dX0_mixBlock_276 rfl (lv_at hl 0 rfl) ?_
    refine va_get (D := D) (ci := 0) (v := .ref (q 7)) (C := RX0) (T := TX0) (N := 4) hx hb hts hin_0 hown hK hP 4 rfl rfl 2 (by decide) lk_19 (fun _ h9 => h9) rfl dX0_mixBlock_277 ?_
    refine lv_bipush (v := ((6 : Int32))) hx hb dX0_mixBlock_280 (by decide) ?_
    refine lv_dup2_11 hx hb dX0_mixBlock_282 rfl rfl ?_
    refine kb_iald hx hb hK hP 7 1 rfl rfl (6) (rfl) (by decide) (by decide) dX0_mixBlock_283 ?_
    refine lv_iload hx hb dX0_mixBlock_284 (lv_at hl 7 rfl) ?_
    refine lv_iadd hx hb dX0_mixBlock_286 ?_
    refine kb_iast hx hb hK hP hD hS 7 1 rfl rfl (6) (rfl) (by decide) (by decide) dX0_mixBlock_287 (fun H locs hP hD hS => ?_)
    have hP : va_P D vwCl (wk q cB cI tl lv lb ln tp ll id ms sc (upd (upd (upd (upd (upd (upd (upd st (0) (((st (0)) + (xa)))) (1) ((((upd st (0) (((st (0)) + (xa)))) (1)) + (xb)))) (2) ((((upd (upd st (0) (((st (0)) + (xa)))) (1) ((((upd st (0) (((st (0)) + (xa)))) (1)) + (xb)))) (2)) + (xc)))) (3) ((((upd (upd (upd st (0) (((st (0)) + (xa)))) (1) ((((upd st (0) (((st (0)) + (xa)))) (1)) + (xb)))) (2) ((((upd (upd st (0) (((st (0)) + (xa)))) (1) ((((upd st (0) (((st (0)) + (xa)))) (1)) + (xb)))) (2)) + (xc)))) (3)) + (xd)))) (4) ((((upd (upd (upd (upd st (0) (((st (0)) + (xa)))) (1) ((((upd st (0) (((st (0)) + (xa)))) (1)) + (xb)))) (2) ((((upd (upd st (0) (((st (0)) + (xa)))) (1) ((((upd st (0) (((st (0)) + (xa)))) (1)) + (xb)))) (2)) + (xc)))) (3) ((((upd (upd (upd st (0) (((st (0)) + (xa)))) (1) ((((upd st (0) (((st (0)) + (xa)))) (1)) + (xb)))) (2) ((((upd (upd st (0) (((st (0)) + (xa)))) (1) ((((upd st (0) (((st (0)) + (xa)))) (1)) + (xb)))) (2)) + (xc)))) (3)) + (xd)))) (4)) + (xe)))) (5) ((((upd (upd (upd (upd (upd st (0) (((st (0)) + (xa)))) (1) ((((upd st (0) (((st (0)) + (xa)))) (1)) + (xb)))) (2) ((((upd (upd st (0) (((st (0)) + (xa)))) (1) ((((upd st (0) (((st (0)) + (xa)))) (1)) + (xb)))) (2)) + (xc)))) (3) ((((upd (upd (upd st (0) (((st (0)) + (xa)))) (1) ((((upd st (0) (((st (0)) + (xa)))) (1)) + (xb)))) (2) ((((upd (upd st (0) (((st (0)) + (xa)))) (1) ((((upd st (0) (((st (0)) + (xa)))) (1)) + (xb)))) (2)) + (xc)))) (3)) + (xd)))) (4) ((((upd (upd (upd (upd st (0) (((st (0)) + (xa)))) (1) ((((upd st (0) (((st (0)) + (xa)))) (1)) + (xb)))) (2) ((((upd (upd st (0) (((st (0)) + (xa)))) (1) ((((upd st (0) (((st (0)) + (xa)))) (1)) + (xb)))) (2)) + (xc)))) (3) ((((upd (upd (upd st (0) (((st (0)) + (xa)))) (1) ((((upd st (0) (((st (0)) + (xa)))) (1)) + (xb)))) (2) ((((upd (upd st (0) (((st (0)) + (xa)))) (1) ((((upd st (0) (((st (0)) + (xa)))) (1)) + (xb)))) (2)) + (xc)))) (3)) + (xd)))) (4)) + (xe)))) (5)) + (xf)))) (6) ((((upd (upd (upd (upd (upd (upd st (0) (((st (0)) + (xa)))) (1) ((((upd st (0) (((st (0)) + (xa)))) (1)) + (xb)))) (2) ((((upd (upd st (0) (((st (0)) + (xa)))) (1) ((((upd st (0) (((st (0)) + (xa)))) (1)) + (xb)))) (2)) + (xc)))) (3) ((((upd (upd (upd st (0) (((st (0)) + (xa)))) (1) ((((upd st (0) (((st (0)) + (xa)))) (1)) + (xb)))) (2) ((((upd (upd st (0) (((st (0)) + (xa)))) (1) ((((upd st (0) (((st (0)) + (xa)))) (1)) + (xb)))) (2)) + (xc)))) (3)) + (xd)))) (4) ((((upd (upd (upd (upd st (0) (((st (0)) + (xa)))) (1) ((((upd st (0) (((st (0)) + (xa)))) (1)) + (xb)))) (2) ((((upd (upd st (0) (((st (0)) + (xa)))) (1) ((((upd st (0) (((st (0)) + (xa)))) (1)) + (xb)))) (2)) + (xc)))) (3) ((((upd (upd (upd st (0) (((st (0)) + (xa)))) (1) ((((upd st (0) (((st (0)) + (xa)))) (1)) + (xb)))) (2) ((((upd (upd st (0) (((st (0)) + (xa)))) (1) ((((upd st (0) (((st (0)) + (xa)))) (1)) + (xb)))) (2)) + (xc)))) (3)) + (xd)))) (4)) + (xe)))) (5) ((((upd (upd (upd (upd (upd st (0) (((st (0)) + (xa)))) (1) ((((upd st (0) (((st (0)) + (xa)))) (1)) + (xb)))) (2) ((((upd (upd st (0) (((st (0)) + (xa)))) (1) ((((upd st (0) (((st (0)) + (xa)))) (1)) + (xb)))) (2)) + (xc)))) (3) ((((upd (upd (upd st (0) (((st (0)) + (xa)))) (1) ((((upd st (0) (((st (0)) + (xa)))) (1)) + (xb)))) (2) ((((upd (upd st (0) (((st (0)) + (xa)))) (1) ((((upd st (0) (((st (0)) + (xa)))) (1)) + (xb)))) (2)) + (xc)))) (3)) + (xd)))) (4) ((((upd (upd (upd (upd st (0) (((st (0)) + (xa)))) (1) ((((upd st (0) (((st (0)) + (xa)))) (1)) + (xb)))) (2) ((((upd (upd st (0) (((st (0)) + (xa)))) (1) ((((upd st (0) (((st (0)) + (xa)))) (1)) + (xb)))) (2)) + (xc)))) (3) ((((upd (upd (upd st (0) (((st (0)) + (xa)))) (1) ((((upd st (0) (((st (0)) + (xa)))) (1)) + (xb)))) (2) ((((upd (upd st (0) (((st (0)) + (xa)))) (1) ((((upd st (0) (((st (0)) + (xa)))) (1)) + (xb)))) (2)) + (xc)))) (3)) + (xd)))) (4)) + (xe)))) (5)) + (xf)))) (6)) + (xg))))) H := hP
    have hD : va_D A (wk q cB cI tl lv lb ln tp ll id ms sc (upd (upd (upd (upd (upd (upd (upd st (0) (((st (0)) + (xa)))) (1) ((((upd st (0) (((st (0)) + (xa)))) (1)) + (xb)))) (2) ((((upd (upd st (0) (((st (0)) + (xa)))) (1) ((((upd st (0) (((st (0)) + (xa)))) (1)) + (xb)))) (2)) + (xc)))) (3) ((((upd (upd (upd st (0) (((st (0)) + (xa)))) (1) ((((upd st (0) (((st (0)) + (xa)))) (1)) + (xb)))) (2) ((((upd (upd st (0) (((st (0)) + (xa)))) (1) ((((upd st (0) (((st (0)) + (xa)))) (1)) + (xb)))) (2)) + (xc)))) (3)) + (xd)))) (4) ((((upd (upd (upd (upd st (0) (((st (0)) + (xa)))) (1) ((((upd st (0) (((st (0)) + (xa)))) (1)) + (xb)))) (2) ((((upd (upd st (0) (((st (0)) + (xa)))) (1) ((((upd st (0) (((st (0)) + (xa)))) (1)) + (xb)))) (2)) + (xc)))) (3) ((((upd (upd (upd st (0) (((st (0)) + (xa)))) (1) ((((upd st (0) (((st (0)) + (xa)))) (1)) + (xb)))) (2) ((((upd (upd st (0) (((st (0)) + (xa)))) (1) ((((upd st (0) (((st (0)) + (xa)))) (1)) + (xb)))) (2)) + (xc)))) (3)) + (xd)))) (4)) + (xe)))) (5) ((((upd (upd (upd (upd (upd st (0) (((st (0)) + (xa)))) (1) ((((upd st (0) (((st (0)) + (xa)))) (1)) + (xb)))) (2) ((((upd (upd st (0) (((st (0)) + (xa)))) (1) ((((upd st (0) (((st (0)) + (xa)))) (1)) + (xb)))) (2)) + (xc)))) (3) ((((upd (upd (upd st (0) (((st (0)) + (xa)))) (1) ((((upd st (0) (((st (0)) + (xa)))) (1)) + (xb)))) (2) ((((upd (upd st (0) (((st (0)) + (xa)))) (1) ((((upd st (0) (((st (0)) + (xa)))) (1)) + (xb)))) (2)) + (xc)))) (3)) + (xd)))) (4) ((((upd (upd (upd (upd st (0) (((st (0)) + (xa)))) (1) ((((upd st (0) (((st (0)) + (xa)))) (1)) + (xb)))) (2) ((((upd (upd st (0) (((st (0)) + (xa)))) (1) ((((upd st (0) (((st (0)) + (xa)))) (1)) + (xb)))) (2)) + (xc)))) (3) ((((upd (upd (upd st (0) (((st (0)) + (xa)))) (1) ((((upd st (0) (((st (0)) + (xa)))) (1)) + (xb)))) (2) ((((upd (upd st (0) (((st (0)) + (xa)))) (1) ((((upd st (0) (((st (0)) + (xa)))) (1)) + (xb)))) (2)) + (xc)))) (3)) + (xd)))) (4)) + (xe)))) (5)) + (xf)))) (6) ((((upd (upd (upd (upd (upd (upd st (0) (((st (0)) + (xa)))) (1) ((((upd st (0) (((st (0)) + (xa)))) (1)) + (xb)))) (2) ((((upd (upd st (0) (((st (0)) + (xa)))) (1) ((((upd st (0) (((st (0)) + (xa)))) (1)) + (xb)))) (2)) + (xc)))) (3) ((((upd (upd (upd st (0) (((st (0)) + (xa)))) (1) ((((upd st (0) (((st (0)) + (xa)))) (1)) + (xb)))) (2) ((((upd (upd st (0) (((st (0)) + (xa)))) (1) ((((upd st (0) (((st (0)) + (xa)))) (1)) + (xb)))) (2)) + (xc)))) (3)) + (xd)))) (4) ((((upd (upd (upd (upd st (0) (((st (0)) + (xa)))) (1) ((((upd st (0) (((st (0)) + (xa)))) (1)) + (xb)))) (2) ((((upd (upd st (0) (((st (0)) + (xa)))) (1) ((((upd st (0) (((st (0)) + (xa)))) (1)) + (xb)))) (2)) + (xc)))) (3) ((((upd (upd (upd st (0) (((st (0)) + (xa)))) (1) ((((upd st (0) (((st (0)) + (xa)))) (1)) + (xb)))) (2) ((((upd (upd st (0) (((st (0)) + (xa)))) (1) ((((upd st (0) (((st (0)) + (xa)))) (1)) + (xb)))) (2)) + (xc)))) (3)) + (xd)))) (4)) + (xe)))) (5) ((((upd (upd (upd (upd (upd st (0) (((st (0)) + (xa)))) (1) ((((upd st (0) (((st (0)) + (xa)))) (1)) + (xb)))) (2) ((((upd (upd st (0) (((st (0)) + (xa)))) (1) ((((upd st (0) (((st (0)) + (xa)))) (1)) + (xb)))) (2)) + (xc)))) (3) ((((upd (upd (upd st (0) (((st (0)) + (xa)))) (1) ((((upd st (0) (((st (0)) + (xa)))) (1)) + (xb)))) (2) ((((upd (upd st (0) (((st (0)) + (xa)))) (1) ((((upd st (0) (((st (0)) + (xa)))) (1)) + (xb)))) (2)) + (xc)))) (3)) + (xd)))) (4) ((((upd (upd (upd (upd st (0) (((st (0)) + (xa)))) (1) ((((upd st (0) (((st (0)) + (xa)))) (1)) + (xb)))) (2) ((((upd (upd st (0) (((st (0)) + (xa)))) (1) ((((upd st (0) (((st (0)) + (xa)))) (1)) + (xb)))) (2)) + (xc)))) (3) ((((upd (upd (upd st (0) (((st (0)) + (xa)))) (1) ((((upd st (0) (((st (0)) + (xa)))) (1)) + (xb)))) (2) ((((upd (upd st (0) (((st (0)) + (xa)))) (1) ((((upd st (0) (((st (0)) + (xa)))) (1)) + (xb)))) (2)) + (xc)))) (3)) + (xd)))) (4)) + (xe)))) (5)) + (xf)))) (6)) + (xg))))) := hD
    refine lv_aload_n hx hb dX0_mixBlock_288 rfl (lv_at hl 0 rfl) ?_
    refine va_get (D := D) (ci := 0) (v := .ref (q 7)) (C := RX0) (T := TX0) (N := 4) hx hb hts hin_0 hown hK hP 4 rfl rfl 2 (by decide) lk_19 (fun _ h9 => h9) rfl dX0_mixBlock_289 ?_
    refine lv_bipush (v := ((7 : Int32))) hx hb dX0_mixBlock_292 (by decide) ?_
    refine lv_dup2_11 hx hb dX0_mixBlock_294 rfl rfl ?_
    refine kb_iald hx hb hK hP 7 1 rfl rfl (7) (rfl) (by decide) (by decide) dX0_mixBlock_295 ?_
    refine lv_iload hx hb dX0_mixBlock_296 (lv_at hl 8 rfl) ?_
    refine lv_iadd hx hb dX0_mixBlock_298 ?_
    refine kb_iast hx hb hK hP hD hS 7 1 rfl rfl (7) (rfl) (by decide) (by decide) dX0_mixBlock_299 (fun H locs hP hD hS => ?_)
    have hP : va_P D vwCl (wk q cB cI tl lv lb ln tp ll id ms sc (upd (upd (upd (upd (upd (upd (upd (upd st (0) (((st (0)) + (xa)))) (1) ((((upd st (0) (((st (0)) + (xa)))) (1)) + (xb)))) (2) ((((upd (upd st (0) (((st (0)) + (xa)))) (1) ((((upd st (0) (((st (0)) + (xa)))) (1)) + (xb)))) (2)) + (xc)))) (3) ((((upd (upd (upd st (0) (((st (0)) + (xa)))) (1) ((((upd st (0) (((st (0)) + (xa)))) (1)) + (xb)))) (2) ((((upd (upd st (0) (((st (0)) + (xa)))) (1) ((((upd st (0) (((st (0)) + (xa)))) (1)) + (xb)))) (2)) + (xc)))) (3)) + (xd)))) (4) ((((upd (upd (upd (upd st (0) (((st (0)) + (xa)))) (1) ((((upd st (0) (((st (0)) + (xa)))) (1)) + (xb)))) (2) ((((upd (upd st (0) (((st (0)) + (xa)))) (1) ((((upd st (0) (((st (0)) + (xa)))) (1)) + (xb)))) (2)) + (xc)))) (3) ((((upd (upd (upd st (0) (((st (0)) + (xa)))) (1) ((((upd st (0) (((st (0)) + (xa)))) (1)) + (xb)))) (2) ((((upd (upd st (0) (((st (0)) + (xa)))) (1) ((((upd st (0) (((st (0)) + (xa)))) (1)) + (xb)))) (2)) + (xc)))) (3)) + (xd)))) (4)) + (xe)))) (5) ((((upd (upd (upd (upd (upd st (0) (((st (0)) + (xa)))) (1) ((((upd st (0) (((st (0)) + (xa)))) (1)) + (xb)))) (2) ((((upd (upd st (0) (((st (0)) + (xa)))) (1) ((((upd st (0) (((st (0)) + (xa)))) (1)) + (xb)))) (2)) + (xc)))) (3) ((((upd (upd (upd st (0) (((st (0)) + (xa)))) (1) ((((upd st (0) (((st (0)) + (xa)))) (1)) + (xb)))) (2) ((((upd (upd st (0) (((st (0)) + (xa)))) (1) ((((upd st (0) (((st (0)) + (xa)))) (1)) + (xb)))) (2)) + (xc)))) (3)) + (xd)))) (4) ((((upd (upd (upd (upd st (0) (((st (0)) + (xa)))) (1) ((((upd st (0) (((st (0)) + (xa)))) (1)) + (xb)))) (2) ((((upd (upd st (0) (((st (0)) + (xa)))) (1) ((((upd st (0) (((st (0)) + (xa)))) (1)) + (xb)))) (2)) + (xc)))) (3) ((((upd (upd (upd st (0) (((st (0)) + (xa)))) (1) ((((upd st (0) (((st (0)) + (xa)))) (1)) + (xb)))) (2) ((((upd (upd st (0) (((st (0)) + (xa)))) (1) ((((upd st (0) (((st (0)) + (xa)))) (1)) + (xb)))) (2)) + (xc)))) (3)) + (xd)))) (4)) + (xe)))) (5)) + (xf)))) (6) ((((upd (upd (upd (upd (upd (upd st (0) (((st (0)) + (xa)))) (1) ((((upd st (0) (((st (0)) + (xa)))) (1)) + (xb)))) (2) ((((upd (upd st (0) (((st (0)) + (xa)))) (1) ((((upd st (0) (((st (0)) + (xa)))) (1)) + (xb)))) (2)) + (xc)))) (3) ((((upd (upd (upd st (0) (((st (0)) + (xa)))) (1) ((((upd st (0) (((st (0)) + (xa)))) (1)) + (xb)))) (2) ((((upd (upd st (0) (((st (0)) + (xa)))) (1) ((((upd st (0) (((st (0)) + (xa)))) (1)) + (xb)))) (2)) + (xc)))) (3)) + (xd)))) (4) ((((upd (upd (upd (upd st (0) (((st (0)) + (xa)))) (1) ((((upd st (0) (((st (0)) + (xa)))) (1)) + (xb)))) (2) ((((upd (upd st (0) (((st (0)) + (xa)))) (1) ((((upd st (0) (((st (0)) + (xa)))) (1)) + (xb)))) (2)) + (xc)))) (3) ((((upd (upd (upd st (0) (((st (0)) + (xa)))) (1) ((((upd st (0) (((st (0)) + (xa)))) (1)) + (xb)))) (2) ((((upd (upd st (0) (((st (0)) + (xa)))) (1) ((((upd st (0) (((st (0)) + (xa)))) (1)) + (xb)))) (2)) + (xc)))) (3)) + (xd)))) (4)) + (xe)))) (5) ((((upd (upd (upd (upd (upd st (0) (((st (0)) + (xa)))) (1) ((((upd st (0) (((st (0)) + (xa)))) (1)) + (xb)))) (2) ((((upd (upd st (0) (((st (0)) + (xa)))) (1) ((((upd st (0) (((st (0)) + (xa)))) (1)) + (xb)))) (2)) + (xc)))) (3) ((((upd (upd (upd st (0) (((st (0)) + (xa)))) (1) ((((upd st (0) (((st (0)) + (xa)))) (1)) + (xb)))) (2) ((((upd (upd st (0) (((st (0)) + (xa)))) (1) ((((upd st (0) (((st (0)) + (xa)))) (1)) + (xb)))) (2)) + (xc)))) (3)) + (xd)))) (4) ((((upd (upd (upd (upd st (0) (((st (0)) + (xa)))) (1) ((((upd st (0) (((st (0)) + (xa)))) (1)) + (xb)))) (2) ((((upd (upd st (0) (((st (0)) + (xa)))) (1) ((((upd st (0) (((st (0)) + (xa)))) (1)) + (xb)))) (2)) + (xc)))) (3) ((((upd (upd (upd st (0) (((st (0)) + (xa)))) (1) ((((upd st (0) (((st (0)) + (xa)))) (1)) + (xb)))) (2) ((((upd (upd st (0) (((st (0)) + (xa)))) (1) ((((upd st (0) (((st (0)) + (xa)))) (1)) + (xb)))) (2)) + (xc)))) (3)) + (xd)))) (4)) + (xe)))) (5)) + (xf)))) (6)) + (xg)))) (7) ((((upd (upd (upd (upd (upd (upd (upd st (0) (((st (0)) + (xa)))) (1) ((((upd st (0) (((st (0)) + (xa)))) (1)) + (xb)))) (2) ((((upd (upd st (0) (((st (0)) + (xa)))) (1) ((((upd st (0) (((st (0)) + (xa)))) (1)) + (xb)))) (2)) + (xc)))) (3) ((((upd (upd (upd st (0) (((st (0)) + (xa)))) (1) ((((upd st (0) (((st (0)) + (xa)))) (1)) + (xb)))) (2) ((((upd (upd st (0) (((st (0)) + (xa)))) (1) ((((upd st (0) (((st (0)) + (xa)))) (1)) + (xb)))) (2)) + (xc)))) (3)) + (xd)))) (4) ((((upd (upd (upd (upd st (0) (((st (0)) + (xa)))) (1) ((((upd st (0) (((st (0)) + (xa)))) (1)) + (xb)))) (2) ((((upd (upd st (0) (((st (0)) + (xa)))) (1) ((((upd st (0) (((st (0)) + (xa)))) (1)) + (xb)))) (2)) + (xc)))) (3) ((((upd (upd (upd st (0) (((st (0)) + (xa)))) (1) ((((upd st (0) (((st (0)) + (xa)))) (1)) + (xb)))) (2) ((((upd (upd st (0) (((st (0)) + (xa)))) (1) ((((upd st (0) (((st (0)) + (xa)))) (1)) + (xb)))) (2)) + (xc)))) (3)) + (xd)))) (4)) + (xe)))) (5) ((((upd (upd (upd (upd (upd st (0) (((st (0)) + (xa)))) (1) ((((upd st (0) (((st (0)) + (xa)))) (1)) + (xb)))) (2) ((((upd (upd st (0) (((st (0)) + (xa)))) (1) ((((upd st (0) (((st (0)) + (xa)))) (1)) + (xb)))) (2)) + (xc)))) (3) ((((upd (upd (upd st (0) (((st (0)) + (xa)))) (1) ((((upd st (0) (((st (0)) + (xa)))) (1)) + (xb)))) (2) ((((upd (upd st (0) (((st (0)) + (xa)))) (1) ((((upd st (0) (((st (0)) + (xa)))) (1)) + (xb)))) (2)) + (xc)))) (3)) + (xd)))) (4) ((((upd (upd (upd (upd st (0) (((st (0)) + (xa)))) (1) ((((upd st (0) (((st (0)) + (xa)))) (1)) + (xb)))) (2) ((((upd (upd st (0) (((st (0)) + (xa)))) (1) ((((upd st (0) (((st (0)) + (xa)))) (1)) + (xb)))) (2)) + (xc)))) (3) ((((upd (upd (upd st (0) (((st (0)) + (xa)))) (1) ((((upd st (0) (((st (0)) + (xa)))) (1)) + (xb)))) (2) ((((upd (upd st (0) (((st (0)) + (xa)))) (1) ((((upd st (0) (((st (0)) + (xa)))) (1)) + (xb)))) (2)) + (xc)))) (3)) + (xd)))) (4)) + (xe)))) (5)) + (xf)))) (6) ((((upd (upd (upd (upd (upd (upd st (0) (((st (0)) + (xa)))) (1) ((((upd st (0) (((st (0)) + (xa)))) (1)) + (xb)))) (2) ((((upd (upd st (0) (((st (0)) + (xa)))) (1) ((((upd st (0) (((st (0)) + (xa)))) (1)) + (xb)))) (2)) + (xc)))) (3) ((((upd (upd (upd st (0) (((st (0)) + (xa)))) (1) ((((upd st (0) (((st (0)) + (xa)))) (1)) + (xb)))) (2) ((((upd (upd st (0) (((st (0)) + (xa)))) (1) ((((upd st (0) (((st (0)) + (xa)))) (1)) + (xb)))) (2)) + (xc)))) (3)) + (xd)))) (4) ((((upd (upd (upd (upd st (0) (((st (0)) + (xa)))) (1) ((((upd st (0) (((st (0)) + (xa)))) (1)) + (xb)))) (2) ((((upd (upd st (0) (((st (0)) + (xa)))) (1) ((((upd st (0) (((st (0)) + (xa)))) (1)) + (xb)))) (2)) + (xc)))) (3) ((((upd (upd (upd st (0) (((st (0)) + (xa)))) (1) ((((upd st (0) (((st (0)) + (xa)))) (1)) + (xb)))) (2) ((((upd (upd st (0) (((st (0)) + (xa)))) (1) ((((upd st (0) (((st (0)) + (xa)))) (1)) + (xb)))) (2)) + (xc)))) (3)) + (xd)))) (4)) + (xe)))) (5) ((((upd (upd (upd (upd (upd st (0) (((st (0)) + (xa)))) (1) ((((upd st (0) (((st (0)) + (xa)))) (1)) + (xb)))) (2) ((((upd (upd st (0) (((st (0)) + (xa)))) (1) ((((upd st (0) (((st (0)) + (xa)))) (1)) + (xb)))) (2)) + (xc)))) (3) ((((upd (upd (upd st (0) (((st (0)) + (xa)))) (1) ((((upd st (0) (((st (0)) + (xa)))) (1)) + (xb)))) (2) ((((upd (upd st (0) (((st (0)) + (xa)))) (1) ((((upd st (0) (((st (0)) + (xa)))) (1)) + (xb)))) (2)) + (xc)))) (3)) + (xd)))) (4) ((((upd (upd (upd (upd st (0) (((st (0)) + (xa)))) (1) ((((upd st (0) (((st (0)) + (xa)))) (1)) + (xb)))) (2) ((((upd (upd st (0) (((st (0)) + (xa)))) (1) ((((upd st (0) (((st (0)) + (xa)))) (1)) + (xb)))) (2)) + (xc)))) (3) ((((upd (upd (upd st (0) (((st (0)) + (xa)))) (1) ((((upd st (0) (((st (0)) + (xa)))) (1)) + (xb)))) (2) ((((upd (upd st (0) (((st (0)) + (xa)))) (1) ((((upd st (0) (((st (0)) + (xa)))) (1)) + (xb)))) (2)) + (xc)))) (3)) + (xd)))) (4)) + (xe)))) (5)) + (xf)))) (6)) + (xg)))) (7)) + (xh))))) H := hP
    have hD : va_D A (wk q cB cI tl lv lb ln tp ll id ms sc (upd (upd (upd (upd (upd (upd (upd (upd st (0) (((st (0)) + (xa)))) (1) ((((upd st (0) (((st (0)) + (xa)))) (1)) + (xb)))) (2) ((((upd (upd st (0) (((st (0)) + (xa)))) (1) ((((upd st (0) (((st (0)) + (xa)))) (1)) + (xb)))) (2)) + (xc)))) (3) ((((upd (upd (upd st (0) (((st (0)) + (xa)))) (1) ((((upd st (0) (((st (0)) + (xa)))) (1)) + (xb)))) (2) ((((upd (upd st (0) (((st (0)) + (xa)))) (1) ((((upd st (0) (((st (0)) + (xa)))) (1)) + (xb)))) (2)) + (xc)))) (3)) + (xd)))) (4) ((((upd (upd (upd (upd st (0) (((st (0)) + (xa)))) (1) ((((upd st (0) (((st (0)) + (xa)))) (1)) + (xb)))) (2) ((((upd (upd st (0) (((st (0)) + (xa)))) (1) ((((upd st (0) (((st (0)) + (xa)))) (1)) + (xb)))) (2)) + (xc)))) (3) ((((upd (upd (upd st (0) (((st (0)) + (xa)))) (1) ((((upd st (0) (((st (0)) + (xa)))) (1)) + (xb)))) (2) ((((upd (upd st (0) (((st (0)) + (xa)))) (1) ((((upd st (0) (((st (0)) + (xa)))) (1)) + (xb)))) (2)) + (xc)))) (3)) + (xd)))) (4)) + (xe)))) (5) ((((upd (upd (upd (upd (upd st (0) (((st (0)) + (xa)))) (1) ((((upd st (0) (((st (0)) + (xa)))) (1)) + (xb)))) (2) ((((upd (upd st (0) (((st (0)) + (xa)))) (1) ((((upd st (0) (((st (0)) + (xa)))) (1)) + (xb)))) (2)) + (xc)))) (3) ((((upd (upd (upd st (0) (((st (0)) + (xa)))) (1) ((((upd st (0) (((st (0)) + (xa)))) (1)) + (xb)))) (2) ((((upd (upd st (0) (((st (0)) + (xa)))) (1) ((((upd st (0) (((st (0)) + (xa)))) (1)) + (xb)))) (2)) + (xc)))) (3)) + (xd)))) (4) ((((upd (upd (upd (upd st (0) (((st (0)) + (xa)))) (1) ((((upd st (0) (((st (0)) + (xa)))) (1)) + (xb)))) (2) ((((upd (upd st (0) (((st (0)) + (xa)))) (1) ((((upd st (0) (((st (0)) + (xa)))) (1)) + (xb)))) (2)) + (xc)))) (3) ((((upd (upd (upd st (0) (((st (0)) + (xa)))) (1) ((((upd st (0) (((st (0)) + (xa)))) (1)) + (xb)))) (2) ((((upd (upd st (0) (((st (0)) + (xa)))) (1) ((((upd st (0) (((st (0)) + (xa)))) (1)) + (xb)))) (2)) + (xc)))) (3)) + (xd)))) (4)) + (xe)))) (5)) + (xf)))) (6) ((((upd (upd (upd (upd (upd (upd st (0) (((st (0)) + (xa)))) (1) ((((upd st (0) (((st (0)) + (xa)))) (1)) + (xb)))) (2) ((((upd (upd st (0) (((st (0)) + (xa)))) (1) ((((upd st (0) (((st (0)) + (xa)))) (1)) + (xb)))) (2)) + (xc)))) (3) ((((upd (upd (upd st (0) (((st (0)) + (xa)))) (1) ((((upd st (0) (((st (0)) + (xa)))) (1)) + (xb)))) (2) ((((upd (upd st (0) (((st (0)) + (xa)))) (1) ((((upd st (0) (((st (0)) + (xa)))) (1)) + (xb)))) (2)) + (xc)))) (3)) + (xd)))) (4) ((((upd (upd (upd (upd st (0) (((st (0)) + (xa)))) (1) ((((upd st (0) (((st (0)) + (xa)))) (1)) + (xb)))) (2) ((((upd (upd st (0) (((st (0)) + (xa)))) (1) ((((upd st (0) (((st (0)) + (xa)))) (1)) + (xb)))) (2)) + (xc)))) (3) ((((upd (upd (upd st (0) (((st (0)) + (xa)))) (1) ((((upd st (0) (((st (0)) + (xa)))) (1)) + (xb)))) (2) ((((upd (upd st (0) (((st (0)) + (xa)))) (1) ((((upd st (0) (((st (0)) + (xa)))) (1)) + (xb)))) (2)) + (xc)))) (3)) + (xd)))) (4)) + (xe)))) (5) ((((upd (upd (upd (upd (upd st (0) (((st (0)) + (xa)))) (1) ((((upd st (0) (((st (0)) + (xa)))) (1)) + (xb)))) (2) ((((upd (upd st (0) (((st (0)) + (xa)))) (1) ((((upd st (0) (((st (0)) + (xa)))) (1)) + (xb)))) (2)) + (xc)))) (3) ((((upd (upd (upd st (0) (((st (0)) + (xa)))) (1) ((((upd st (0) (((st (0)) + (xa)))) (1)) + (xb)))) (2) ((((upd (upd st (0) (((st (0)) + (xa)))) (1) ((((upd st (0) (((st (0)) + (xa)))) (1)) + (xb)))) (2)) + (xc)))) (3)) + (xd)))) (4) ((((upd (upd (upd (upd st (0) (((st (0)) + (xa)))) (1) ((((upd st (0) (((st (0)) + (xa)))) (1)) + (xb)))) (2) ((((upd (upd st (0) (((st (0)) + (xa)))) (1) ((((upd st (0) (((st (0)) + (xa)))) (1)) + (xb)))) (2)) + (xc)))) (3) ((((upd (upd (upd st (0) (((st (0)) + (xa)))) (1) ((((upd st (0) (((st (0)) + (xa)))) (1)) + (xb)))) (2) ((((upd (upd st (0) (((st (0)) + (xa)))) (1) ((((upd st (0) (((st (0)) + (xa)))) (1)) + (xb)))) (2)) + (xc)))) (3)) + (xd)))) (4)) + (xe)))) (5)) + (xf)))) (6)) + (xg)))) (7) ((((upd (upd (upd (upd (upd (upd (upd st (0) (((st (0)) + (xa)))) (1) ((((upd st (0) (((st (0)) + (xa)))) (1)) + (xb)))) (2) ((((upd (upd st (0) (((st (0)) + (xa)))) (1) ((((upd st (0) (((st (0)) + (xa)))) (1)) + (xb)))) (2)) + (xc)))) (3) ((((upd (upd (upd st (0) (((st (0)) + (xa)))) (1) ((((upd st (0) (((st (0)) + (xa)))) (1)) + (xb)))) (2) ((((upd (upd st (0) (((st (0)) + (xa)))) (1) ((((upd st (0) (((st (0)) + (xa)))) (1)) + (xb)))) (2)) + (xc)))) (3)) + (xd)))) (4) ((((upd (upd (upd (upd st (0) (((st (0)) + (xa)))) (1) ((((upd st (0) (((st (0)) + (xa)))) (1)) + (xb)))) (2) ((((upd (upd st (0) (((st (0)) + (xa)))) (1) ((((upd st (0) (((st (0)) + (xa)))) (1)) + (xb)))) (2)) + (xc)))) (3) ((((upd (upd (upd st (0) (((st (0)) + (xa)))) (1) ((((upd st (0) (((st (0)) + (xa)))) (1)) + (xb)))) (2) ((((upd (upd st (0) (((st (0)) + (xa)))) (1) ((((upd st (0) (((st (0)) + (xa)))) (1)) + (xb)))) (2)) + (xc)))) (3)) + (xd)))) (4)) + (xe)))) (5) ((((upd (upd (upd (upd (upd st (0) (((st (0)) + (xa)))) (1) ((((upd st (0) (((st (0)) + (xa)))) (1)) + (xb)))) (2) ((((upd (upd st (0) (((st (0)) + (xa)))) (1) ((((upd st (0) (((st (0)) + (xa)))) (1)) + (xb)))) (2)) + (xc)))) (3) ((((upd (upd (upd st (0) (((st (0)) + (xa)))) (1) ((((upd st (0) (((st (0)) + (xa)))) (1)) + (xb)))) (2) ((((upd (upd st (0) (((st (0)) + (xa)))) (1) ((((upd st (0) (((st (0)) + (xa)))) (1)) + (xb)))) (2)) + (xc)))) (3)) + (xd)))) (4) ((((upd (upd (upd (upd st (0) (((st (0)) + (xa)))) (1) ((((upd st (0) (((st (0)) + (xa)))) (1)) + (xb)))) (2) ((((upd (upd st (0) (((st (0)) + (xa)))) (1) ((((upd st (0) (((st (0)) + (xa)))) (1)) + (xb)))) (2)) + (xc)))) (3) ((((upd (upd (upd st (0) (((st (0)) + (xa)))) (1) ((((upd st (0) (((st (0)) + (xa)))) (1)) + (xb)))) (2) ((((upd (upd st (0) (((st (0)) + (xa)))) (1) ((((upd st (0) (((st (0)) + (xa)))) (1)) + (xb)))) (2)) + (xc)))) (3)) + (xd)))) (4)) + (xe)))) (5)) + (xf)))) (6) ((((upd (upd (upd (upd (upd (upd st (0) (((st (0)) + (xa)))) (1) ((((upd st (0) (((st (0)) + (xa)))) (1)) + (xb)))) (2) ((((upd (upd st (0) (((st (0)) + (xa)))) (1) ((((upd st (0) (((st (0)) + (xa)))) (1)) + (xb)))) (2)) + (xc)))) (3) ((((upd (upd (upd st (0) (((st (0)) + (xa)))) (1) ((((upd st (0) (((st (0)) + (xa)))) (1)) + (xb)))) (2) ((((upd (upd st (0) (((st (0)) + (xa)))) (1) ((((upd st (0) (((st (0)) + (xa)))) (1)) + (xb)))) (2)) + (xc)))) (3)) + (xd)))) (4) ((((upd (upd (upd (upd st (0) (((st (0)) + (xa)))) (1) ((((upd st (0) (((st (0)) + (xa)))) (1)) + (xb)))) (2) ((((upd (upd st (0) (((st (0)) + (xa)))) (1) ((((upd st (0) (((st (0)) + (xa)))) (1)) + (xb)))) (2)) + (xc)))) (3) ((((upd (upd (upd st (0) (((st (0)) + (xa)))) (1) ((((upd st (0) (((st (0)) + (xa)))) (1)) + (xb)))) (2) ((((upd (upd st (0) (((st (0)) + (xa)))) (1) ((((upd st (0) (((st (0)) + (xa)))) (1)) + (xb)))) (2)) + (xc)))) (3)) + (xd)))) (4)) + (xe)))) (5) ((((upd (upd (upd (upd (upd st (0) (((st (0)) + (xa)))) (1) ((((upd st (0) (((st (0)) + (xa)))) (1)) + (xb)))) (2) ((((upd (upd st (0) (((st (0)) + (xa)))) (1) ((((upd st (0) (((st (0)) + (xa)))) (1)) + (xb)))) (2)) + (xc)))) (3) ((((upd (upd (upd st (0) (((st (0)) + (xa)))) (1) ((((upd st (0) (((st (0)) + (xa)))) (1)) + (xb)))) (2) ((((upd (upd st (0) (((st (0)) + (xa)))) (1) ((((upd st (0) (((st (0)) + (xa)))) (1)) + (xb)))) (2)) + (xc)))) (3)) + (xd)))) (4) ((((upd (upd (upd (upd st (0) (((st (0)) + (xa)))) (1) ((((upd st (0) (((st (0)) + (xa)))) (1)) + (xb)))) (2) ((((upd (upd st (0) (((st (0)) + (xa)))) (1) ((((upd st (0) (((st (0)) + (xa)))) (1)) + (xb)))) (2)) + (xc)))) (3) ((((upd (upd (upd st (0) (((st (0)) + (xa)))) (1) ((((upd st (0) (((st (0)) + (xa)))) (1)) + (xb)))) (2) ((((upd (upd st (0) (((st (0)) + (xa)))) (1) ((((upd st (0) (((st (0)) + (xa)))) (1)) + (xb)))) (2)) + (xc)))) (3)) + (xd)))) (4)) + (xe)))) (5)) + (xf)))) (6)) + (xg)))) (7)) + (xh))))) := hD
    exact kr_v (_) hx hb hr hlocks hK hP hD hS (mx_end hI_0) dX0_mixBlock_300
  · have c_70 : i < 64 := kn_nle c_70 (by omega) (by omega)
    have hlt : i < 64 := c_70
    refine lv_iload hx hb dX0_mixBlock_73 (lv_at hl 5 rfl) ?_
    refine lv_iload hx hb dX0_mixBlock_75 (lv_at hl 6 rfl) ?_
    refine lv_iand hx hb dX0_mixBlock_77 ?_
    refine lv_iload hx hb dX0_mixBlock_78 (lv_at hl 5 rfl) ?_
    refine lv_iconst (v := ((-1 : Int32))) hx hb dX0_mixBlock_80 (by decide) ?_
    refine lv_ixor hx hb dX0_mixBlock_81 ?_
    refine lv_iload hx hb dX0_mixBlock_82 (lv_at hl 7 rfl) ?_
    refine lv_iand hx hb dX0_mixBlock_84 ?_
    refine lv_ixor hx hb dX0_mixBlock_85 ?_
    refine lv_istore (lv' := [(10, .int (((xe) &&& (xf)) ^^^ (((xe) ^^^ ((-1 : Int32))) &&& (xg)))), (0, .ref (q 4)), (1, .int xa), (2, .int xb), (3, .int xc), (4, .int xd), (5, .int xe), (6, .int xf), (7, .int xg), (8, .int xh), (9, .int (nI i))]) hx hb dX0_mixBlock_86 hl (by decide) rfl (fun ls hl => ?_)
    refine lv_iload_n hx hb dX0_mixBlock_88 rfl (lv_at hl 2 rfl) ?_
    refine lv_iload_n hx hb dX0_mixBlock_89 rfl (lv_at hl 3 rfl) ?_
    refine lv_iand hx hb dX0_mixBlock_90 ?_
    refine lv_iload_n hx hb dX0_mixBlock_91 rfl (lv_at hl 2 rfl) ?_
    refine lv_iload_n hx hb dX0_mixBlock_92 rfl (lv_at hl 4 rfl) ?_
    refine lv_iand hx hb dX0_mixBlock_93 ?_
    refine lv_ixor hx hb dX0_mixBlock_94 ?_
    refine lv_iload_n hx hb dX0_mixBlock_95 rfl (lv_at hl 3 rfl) ?_
    refine lv_iload_n hx hb dX0_mixBlock_96 rfl (lv_at hl 4 rfl) ?_
    refine lv_iand hx hb dX0_mixBlock_97 ?_
    refine lv_ixor hx hb dX0_mixBlock_98 ?_
    refine lv_istore (lv' := [(11, .int ((((xa) &&& (xb)) ^^^ ((xa) &&& (xc))) ^^^ ((xb) &&& (xc)))), (10, .int (((xe) &&& (xf)) ^^^ (((xe) ^^^ ((-1 : Int32))) &&& (xg)))), (0, .ref (q 4)), (1, .int xa), (2, .int xb), (3, .int xc), (4, .int xd), (5, .int xe), (6, .int xf), (7, .int xg), (8, .int xh), (9, .int (nI i))]) hx hb dX0_mixBlock_99 hl (by decide) rfl (fun ls hl => ?_)
    refine lv_iload hx hb dX0_mixBlock_101 (lv_at hl 7 rfl) ?_
    refine lv_bipush (v := ((6 : Int32))) hx hb dX0_mixBlock_103 (by decide) ?_
    refine kcs_i (As := [.int xe, .int ((6 : Int32))]) (rest := []) ⟨hx, hb, hml, hown, hts⟩ (c_D_turn l D A q cB cI (wk q cB cI tl lv lb ln tp ll id ms sc st) ((xe)) (((6 : Int32)))) (cwS 2 hts gX0_mixBlock_X0_turn rfl rfl rfl (by decide +kernel) ⟨Nat.le_of_ble_eq_true rfl, Nat.le_of_ble_eq_true rfl⟩) hK hP hD hS hZ rfl hl.1 rfl (Nat.le_of_ble_eq_true rfl) ⟨Nat.zero_le _, Nat.zero_le _⟩ dX0_mixBlock_105 (fun r_1 _ H locs hw hP hD hS => ?_)
    have hw : r_1 = (tn (xe) ((6 : Int32))) := hw
    subst hw
    have hP : va_P D vwCl (wk q cB cI tl lv lb ln tp ll id ms sc st) H := hP
    have hD : va_D A (wk q cB cI tl lv lb ln tp ll id ms sc st) := hD
    refine lv_iload hx hb dX0_mixBlock_108 (lv_at hl 7 rfl) ?_
    refine lv_bipush (v := ((11 : Int32))) hx hb dX0_mixBlock_110 (by decide) ?_
    refine kcs_i (As := [.int xe, .int ((11 : Int32))]) (rest := [.int (tn (xe) ((6 : Int32)))]) ⟨hx, hb, hml, hown, hts⟩ (c_D_turn l D A q cB cI (wk q cB cI tl lv lb ln tp ll id ms sc st) ((xe)) (((11 : Int32)))) (cwS 2 hts gX0_mixBlock_X0_turn rfl rfl rfl (by decide +kernel) ⟨Nat.le_of_ble_eq_true rfl, Nat.le_of_ble_eq_true rfl⟩) hK hP hD hS hZ rfl hl.1 rfl (Nat.le_of_ble_eq_true rfl) ⟨Nat.zero_le _, Nat.zero_le _⟩ dX0_mixBlock_112 (fun r_2 _ H locs hw hP hD hS => ?_)
    have hw : r_2 = (tn (xe) ((11 : Int32))) := hw
    subst hw
    have hP : va_P D vwCl (wk q cB cI tl lv lb ln tp ll id ms sc st) H := hP
    have hD : va_D A (wk q cB cI tl lv lb ln tp ll id ms sc st) := hD
    refine lv_ixor hx hb dX0_mixBlock_115 ?_
    refine lv_iload hx hb dX0_mixBlock_116 (lv_at hl 7 rfl) ?_
    refine lv_bipush (v := ((25 : Int32))) hx hb dX0_mixBlock_118 (by decide) ?_
    refine kcs_i (As := [.int xe, .int ((25 : Int32))]) (rest := [.int ((tn (xe) ((6 : Int32))) ^^^ (tn (xe) ((11 : Int32))))]) ⟨hx, hb, hml, hown, hts⟩ (c_D_turn l D A q cB cI (wk q cB cI tl lv lb ln tp ll id ms sc st) ((xe)) (((25 : Int32)))) (cwS 2 hts gX0_mixBlock_X0_turn rfl rfl rfl (by decide +kernel) ⟨Nat.le_of_ble_eq_true rfl, Nat.le_of_ble_eq_true rfl⟩) hK hP hD hS hZ rfl hl.1 rfl (Nat.le_of_ble_eq_true rfl) ⟨Nat.zero_le _, Nat.zero_le _⟩ dX0_mixBlock_120 (fun r_3 _ H locs hw hP hD hS => ?_)
    have hw : r_3 = (tn (xe) ((25 : Int32))) := hw
    subst hw
    have hP : va_P D vwCl (wk q cB cI tl lv lb ln tp ll id ms sc st) H := hP
    have hD : va_D A (wk q cB cI tl lv lb ln tp ll id ms sc st) := hD
    refine lv_ixor hx hb dX0_mixBlock_123 ?_
    refine lv_istore (lv' := [(12, .int (((tn (xe) ((6 : Int32))) ^^^ (tn (xe) ((11 : Int32)))) ^^^ (tn (xe) ((25 : Int32))))), (11, .int ((((xa) &&& (xb)) ^^^ ((xa) &&& (xc))) ^^^ ((xb) &&& (xc)))), (10, .int (((xe) &&& (xf)) ^^^ (((xe) ^^^ ((-1 : Int32))) &&& (xg)))), (0, .ref (q 4)), (1, .int xa), (2, .int xb), (3, .int xc), (4, .int xd), (5, .int xe), (6, .int xf), (7, .int xg), (8, .int xh), (9, .int (nI i))]) hx hb dX0_mixBlock_124 hl (by decide) rfl (fun ls hl => ?_)
    refine lv_iload_n hx hb dX0_mixBlock_126 rfl (lv_at hl 4 rfl) ?_
    refine lv_iconst (v := ((2 : Int32))) hx hb dX0_mixBlock_127 (by decide) ?_
    refine kcs_i (As := [.int xa, .int ((2 : Int32))]) (rest := []) ⟨hx, hb, hml, hown, hts⟩ (c_D_turn l D A q cB cI (wk q cB cI tl lv lb ln tp ll id ms sc st) ((xa)) (((2 : Int32)))) (cwS 2 hts gX0_mixBlock_X0_turn rfl rfl rfl (by decide +kernel) ⟨Nat.le_of_ble_eq_true rfl, Nat.le_of_ble_eq_true rfl⟩) hK hP hD hS hZ rfl hl.1 rfl (Nat.le_of_ble_eq_true rfl) ⟨Nat.zero_le _, Nat.zero_le _⟩ dX0_mixBlock_128 (fun r_4 _ H locs hw hP hD hS => ?_)
    have hw : r_4 = (tn (xa) ((2 : Int32))) := hw
    subst hw
    have hP : va_P D vwCl (wk q cB cI tl lv lb ln tp ll id ms sc st) H := hP
    have hD : va_D A (wk q cB cI tl lv lb ln tp ll id ms sc st) := hD
    refine lv_iload_n hx hb dX0_mixBlock_131 rfl (lv_at hl 4 rfl) ?_
    refine lv_bipush (v := ((13 : Int32))) hx hb dX0_mixBlock_132 (by decide) ?_
    refine kcs_i (As := [.int xa, .int ((13 : Int32))]) (rest := [.int (tn (xa) ((2 : Int32)))]) ⟨hx, hb, hml, hown, hts⟩ (c_D_turn l D A q cB cI (wk q cB cI tl lv lb ln tp ll id ms sc st) ((xa)) (((13 : Int32)))) (cwS 2 hts gX0_mixBlock_X0_turn rfl rfl rfl (by decide +kernel) ⟨Nat.le_of_ble_eq_true rfl, Nat.le_of_ble_eq_true rfl⟩) hK hP hD hS hZ rfl hl.1 rfl (Nat.le_of_ble_eq_true rfl) ⟨Nat.zero_le _, Nat.zero_le _⟩ dX0_mixBlock_134 (fun r_5 _ H locs hw hP hD hS => ?_)
    have hw : r_5 = (tn (xa) ((13 : Int32))) := hw
    subst hw
    have hP : va_P D vwCl (wk q cB cI tl lv lb ln tp ll id ms sc st) H := hP
    have hD : va_D A (wk q cB cI tl lv lb ln tp ll id ms sc st) := hD
    refine lv_ixor hx hb dX0_mixBlock_137 ?_
    refine lv_iload_n hx hb dX0_mixBlock_138 rfl (lv_at hl 4 rfl) ?_
    refine lv_bipush (v := ((22 : Int32))) hx hb dX0_mixBlock_139 (by decide) ?_
    refine kcs_i (As := [.int xa, .int ((22 : Int32))]) (rest := [.int ((tn (xa) ((2 : Int32))) ^^^ (tn (xa) ((13 : Int32))))]) ⟨hx, hb, hml, hown, hts⟩ (c_D_turn l D A q cB cI (wk q cB cI tl lv lb ln tp ll id ms sc st) ((xa)) (((22 : Int32)))) (cwS 2 hts gX0_mixBlock_X0_turn rfl rfl rfl (by decide +kernel) ⟨Nat.le_of_ble_eq_true rfl, Nat.le_of_ble_eq_true rfl⟩) hK hP hD hS hZ rfl hl.1 rfl (Nat.le_of_ble_eq_true rfl) ⟨Nat.zero_le _, Nat.zero_le _⟩ dX0_mixBlock_141 (fun r_6 _ H locs hw hP hD hS => ?_)
    have hw : r_6 = (tn (xa) ((22 : Int32))) := hw
    subst hw
    have hP : va_P D vwCl (wk q cB cI tl lv lb ln tp ll id ms sc st) H := hP
    have hD : va_D A (wk q cB cI tl lv lb ln tp ll id ms sc st) := hD
    refine lv_ixor hx hb dX0_mixBlock_144 ?_
    refine lv_istore (lv' := [(13, .int (((tn (xa) ((2 : Int32))) ^^^ (tn (xa) ((13 : Int32)))) ^^^ (tn (xa) ((22 : Int32))))), (12, .int (((tn (xe) ((6 : Int32))) ^^^ (tn (xe) ((11 : Int32)))) ^^^ (tn (xe) ((25 : Int32))))), (11, .int ((((xa) &&& (xb)) ^^^ ((xa) &&& (xc))) ^^^ ((xb) &&& (xc)))), (10, .int (((xe) &&& (xf)) ^^^ (((xe) ^^^ ((-1 : Int32))) &&& (xg)))), (0, .ref (q 4)), (1, .int xa), (2, .int xb), (3, .int xc), (4, .int xd), (5, .int xe), (6, .int xf), (7, .int xg), (8, .int xh), (9, .int (nI i))]) hx hb dX0_mixBlock_145 hl (by decide) rfl (fun ls hl => ?_)
    refine lv_iload hx hb dX0_mixBlock_147 (lv_at hl 12 rfl) ?_
    refine lv_iload hx hb dX0_mixBlock_149 (lv_at hl 1 rfl) ?_
    refine lv_iadd hx hb dX0_mixBlock_151 ?_
    refine lv_iload hx hb dX0_mixBlock_152 (lv_at hl 3 rfl) ?_
    refine lv_iadd hx hb dX0_mixBlock_154 ?_
    refine kz_get hx hb hZ hS 2 rfl hown lk_51 dX0_mixBlock_155 ?_
    refine lv_iload hx hb dX0_mixBlock_158 (lv_at hl 13 rfl) ?_
    refine kz_ld hx hb hZ hS 2 rfl (i) (rfl) (by omega) (by decide) dX0_mixBlock_160 ?_
    refine lv_iadd hx hb dX0_mixBlock_161 ?_
    refine lv_aload_n hx hb dX0_mixBlock_162 rfl (lv_at hl 4 rfl) ?_
    refine va_get (D := D) (ci := 0) (v := .ref (q 6)) (C := RX0) (T := TX0) (N := 4) hx hb hts hin_0 hown hK hP 4 rfl rfl 1 (by decide) lk_15 (fun _ h9 => h9) rfl dX0_mixBlock_163 ?_
    refine lv_iload hx hb dX0_mixBlock_166 (lv_at hl 13 rfl) ?_
    refine kb_iald hx hb hK hP 6 1 rfl rfl (i) (rfl) (by omega) (by decide) dX0_mixBlock_168 ?_
    refine lv_iadd hx hb dX0_mixBlock_169 ?_
    refine lv_istore (lv' := [(14, .int (((((xh) + (((tn (xe) ((6 : Int32))) ^^^ (tn (xe) ((11 : Int32)))) ^^^ (tn (xe) ((25 : Int32))))) + (((xe) &&& (xf)) ^^^ (((xe) ^^^ ((-1 : Int32))) &&& (xg)))) + (rwv (i))) + (sc (i)))), (13, .int (((tn (xa) ((2 : Int32))) ^^^ (tn (xa) ((13 : Int32)))) ^^^ (tn (xa) ((22 : Int32))))), (12, .int (((tn (xe) ((6 : Int32))) ^^^ (tn (xe) ((11 : Int32)))) ^^^ (tn (xe) ((25 : Int32))))), (11, .int ((((xa) &&& (xb)) ^^^ ((xa) &&& (xc))) ^^^ ((xb) &&& (xc)))), (10, .int (((xe) &&& (xf)) ^^^ (((xe) ^^^ ((-1 : Int32))) &&& (xg)))), (0, .ref (q 4)), (1, .int xa), (2, .int xb), (3, .int xc), (4, .int xd), (5, .int xe), (6, .int xf), (7, .int xg), (8, .int xh), (9, .int (nI i))]) hx hb dX0_mixBlock_170 hl (by decide) rfl (fun ls hl => ?_)
    refine lv_iload hx hb dX0_mixBlock_172 (lv_at hl 12 rfl) ?_
    refine lv_istore (lv' := [(8, .int xg), (14, .int (((((xh) + (((tn (xe) ((6 : Int32))) ^^^ (tn (xe) ((11 : Int32)))) ^^^ (tn (xe) ((25 : Int32))))) + (((xe) &&& (xf)) ^^^ (((xe) ^^^ ((-1 : Int32))) &&& (xg)))) + (rwv (i))) + (sc (i)))), (13, .int (((tn (xa) ((2 : Int32))) ^^^ (tn (xa) ((13 : Int32)))) ^^^ (tn (xa) ((22 : Int32))))), (12, .int (((tn (xe) ((6 : Int32))) ^^^ (tn (xe) ((11 : Int32)))) ^^^ (tn (xe) ((25 : Int32))))), (11, .int ((((xa) &&& (xb)) ^^^ ((xa) &&& (xc))) ^^^ ((xb) &&& (xc)))), (10, .int (((xe) &&& (xf)) ^^^ (((xe) ^^^ ((-1 : Int32))) &&& (xg)))), (0, .ref (q 4)), (1, .int xa), (2, .int xb), (3, .int xc), (4, .int xd), (5, .int xe), (6, .int xf), (7, .int xg), (9, .int (nI i))]) hx hb dX0_mixBlock_174 hl (by decide) rfl (fun ls hl => ?_)
    refine lv_iload hx hb dX0_mixBlock_176 (lv_at hl 12 rfl) ?_
    refine lv_istore (lv' := [(7, .int xf), (8, .int xg), (14, .int (((((xh) + (((tn (xe) ((6 : Int32))) ^^^ (tn (xe) ((11 : Int32)))) ^^^ (tn (xe) ((25 : Int32))))) + (((xe) &&& (xf)) ^^^ (((xe) ^^^ ((-1 : Int32))) &&& (xg)))) + (rwv (i))) + (sc (i)))), (13, .int (((tn (xa) ((2 : Int32))) ^^^ (tn (xa) ((13 : Int32)))) ^^^ (tn (xa) ((22 : Int32))))), (12, .int (((tn (xe) ((6 : Int32))) ^^^ (tn (xe) ((11 : Int32)))) ^^^ (tn (xe) ((25 : Int32))))), (11, .int ((((xa) &&& (xb)) ^^^ ((xa) &&& (xc))) ^^^ ((xb) &&& (xc)))), (10, .int (((xe) &&& (xf)) ^^^ (((xe) ^^^ ((-1 : Int32))) &&& (xg)))), (0, .ref (q 4)), (1, .int xa), (2, .int xb), (3, .int xc), (4, .int xd), (5, .int xe), (6, .int xf), (9, .int (nI i))]) hx hb dX0_mixBlock_178 hl (by decide) rfl (fun ls hl => ?_)
    refine lv_iload hx hb dX0_mixBlock_180 (lv_at hl 12 rfl) ?_
    refine lv_istore (lv' := [(6, .int xe), (7, .int xf), (8, .int xg), (14, .int (((((xh) + (((tn (xe) ((6 : Int32))) ^^^ (tn (xe) ((11 : Int32)))) ^^^ (tn (xe) ((25 : Int32))))) + (((xe) &&& (xf)) ^^^ (((xe) ^^^ ((-1 : Int32))) &&& (xg)))) + (rwv (i))) + (sc (i)))), (13, .int (((tn (xa) ((2 : Int32))) ^^^ (tn (xa) ((13 : Int32)))) ^^^ (tn (xa) ((22 : Int32))))), (12, .int (((tn (xe) ((6 : Int32))) ^^^ (tn (xe) ((11 : Int32)))) ^^^ (tn (xe) ((25 : Int32))))), (11, .int ((((xa) &&& (xb)) ^^^ ((xa) &&& (xc))) ^^^ ((xb) &&& (xc)))), (10, .int (((xe) &&& (xf)) ^^^ (((xe) ^^^ ((-1 : Int32))) &&& (xg)))), (0, .ref (q 4)), (1, .int xa), (2, .int xb), (3, .int xc), (4, .int xd), (5, .int xe), (9, .int (nI i))]) hx hb dX0_mixBlock_182 hl (by decide) rfl (fun ls hl => ?_)
    refine lv_iload hx hb dX0_mixBlock_184 (lv_at hl 12 rfl) ?_
    refine lv_iload hx hb dX0_mixBlock_186 (lv_at hl 3 rfl) ?_
    refine lv_iadd hx hb dX0_mixBlock_188 ?_
    refine lv_istore (lv' := [(5, .int ((xd) + (((((xh) + (((tn (xe) ((6 : Int32))) ^^^ (tn (xe) ((11 : Int32)))) ^^^ (tn (xe) ((25 : Int32))))) + (((xe) &&& (xf)) ^^^ (((xe) ^^^ ((-1 : Int32))) &&& (xg)))) + (rwv (i))) + (sc (i))))), (6, .int xe), (7, .int xf), (8, .int xg), (14, .int (((((xh) + (((tn (xe) ((6 : Int32))) ^^^ (tn (xe) ((11 : Int32)))) ^^^ (tn (xe) ((25 : Int32))))) + (((xe) &&& (xf)) ^^^ (((xe) ^^^ ((-1 : Int32))) &&& (xg)))) + (rwv (i))) + (sc (i)))), (13, .int (((tn (xa) ((2 : Int32))) ^^^ (tn (xa) ((13 : Int32)))) ^^^ (tn (xa) ((22 : Int32))))), (12, .int (((tn (xe) ((6 : Int32))) ^^^ (tn (xe) ((11 : Int32)))) ^^^ (tn (xe) ((25 : Int32))))), (11, .int ((((xa) &&& (xb)) ^^^ ((xa) &&& (xc))) ^^^ ((xb) &&& (xc)))), (10, .int (((xe) &&& (xf)) ^^^ (((xe) ^^^ ((-1 : Int32))) &&& (xg)))), (0, .ref (q 4)), (1, .int xa), (2, .int xb), (3, .int xc), (4, .int xd), (9, .int (nI i))]) hx hb dX0_mixBlock_189 hl (by decide) rfl (fun ls hl => ?_)
    refine lv_iload_n hx hb dX0_mixBlock_191 rfl (lv_at hl 12 rfl) ?_
    refine lv_istore (lv' := [(4, .int xc), (5, .int ((xd) + (((((xh) + (((tn (xe) ((6 : Int32))) ^^^ (tn (xe) ((11 : Int32)))) ^^^ (tn (xe) ((25 : Int32))))) + (((xe) &&& (xf)) ^^^ (((xe) ^^^ ((-1 : Int32))) &&& (xg)))) + (rwv (i))) + (sc (i))))), (6, .int xe), (7, .int xf), (8, .int xg), (14, .int (((((xh) + (((tn (xe) ((6 : Int32))) ^^^ (tn (xe) ((11 : Int32)))) ^^^ (tn (xe) ((25 : Int32))))) + (((xe) &&& (xf)) ^^^ (((xe) ^^^ ((-1 : Int32))) &&& (xg)))) + (rwv (i))) + (sc (i)))), (13, .int (((tn (xa) ((2 : Int32))) ^^^ (tn (xa) ((13 : Int32)))) ^^^ (tn (xa) ((22 : Int32))))), (12, .int (((tn (xe) ((6 : Int32))) ^^^ (tn (xe) ((11 : Int32)))) ^^^ (tn (xe) ((25 : Int32))))), (11, .int ((((xa) &&& (xb)) ^^^ ((xa) &&& (xc))) ^^^ ((xb) &&& (xc)))), (10, .int (((xe) &&& (xf)) ^^^ (((xe) ^^^ ((-1 : Int32))) &&& (xg)))), (0, .ref (q 4)), (1, .int xa), (2, .int xb), (3, .int xc), (9, .int (nI i))]) hx hb dX0_mixBlock_192 hl (by decide) rfl (fun ls hl => ?_)
    refine lv_iload_n hx hb dX0_mixBlock_194 rfl (lv_at hl 12 rfl) ?_
    refine lv_istore_n (lv' := [(3, .int xb), (4, .int xc), (5, .int ((xd) + (((((xh) + (((tn (xe) ((6 : Int32))) ^^^ (tn (xe) ((11 : Int32)))) ^^^ (tn (xe) ((25 : Int32))))) + (((xe) &&& (xf)) ^^^ (((xe) ^^^ ((-1 : Int32))) &&& (xg)))) + (rwv (i))) + (sc (i))))), (6, .int xe), (7, .int xf), (8, .int xg), (14, .int (((((xh) + (((tn (xe) ((6 : Int32))) ^^^ (tn (xe) ((11 : Int32)))) ^^^ (tn (xe) ((25 : Int32))))) + (((xe) &&& (xf)) ^^^ (((xe) ^^^ ((-1 : Int32))) &&& (xg)))) + (rwv (i))) + (sc (i)))), (13, .int (((tn (xa) ((2 : Int32))) ^^^ (tn (xa) ((13 : Int32)))) ^^^ (tn (xa) ((22 : Int32))))), (12, .int (((tn (xe) ((6 : Int32))) ^^^ (tn (xe) ((11 : Int32)))) ^^^ (tn (xe) ((25 : Int32))))), (11, .int ((((xa) &&& (xb)) ^^^ ((xa) &&& (xc))) ^^^ ((xb) &&& (xc)))), (10, .int (((xe) &&& (xf)) ^^^ (((xe) ^^^ ((-1 : Int32))) &&& (xg)))), (0, .ref (q 4)), (1, .int xa), (2, .int xb), (9, .int (nI i))]) hx hb dX0_mixBlock_195 rfl hl (by decide) rfl (fun ls hl => ?_)
    refine lv_iload_n hx hb dX0_mixBlock_196 rfl (lv_at hl 12 rfl) ?_
    refine lv_istore_n (lv' := [(2, .int xa), (3, .int xb), (4, .int xc), (5, .int ((xd) + (((((xh) + (((tn (xe) ((6 : Int32))) ^^^ (tn (xe) ((11 : Int32)))) ^^^ (tn (xe) ((25 : Int32))))) + (((xe) &&& (xf)) ^^^ (((xe) ^^^ ((-1 : Int32))) &&& (xg)))) + (rwv (i))) + (sc (i))))), (6, .int xe), (7, .int xf), (8, .int xg), (14, .int (((((xh) + (((tn (xe) ((6 : Int32))) ^^^ (tn (xe) ((11 : Int32)))) ^^^ (tn (xe) ((25 : Int32))))) + (((xe) &&& (xf)) ^^^ (((xe) ^^^ ((-1 : Int32))) &&& (xg)))) + (rwv (i))) + (sc (i)))), (13, .int (((tn (xa) ((2 : Int32))) ^^^ (tn (xa) ((13 : Int32)))) ^^^ (tn (xa) ((22 : Int32))))), (12, .int (((tn (xe) ((6 : Int32))) ^^^ (tn (xe) ((11 : Int32)))) ^^^ (tn (xe) ((25 : Int32))))), (11, .int ((((xa) &&& (xb)) ^^^ ((xa) &&& (xc))) ^^^ ((xb) &&& (xc)))), (10, .int (((xe) &&& (xf)) ^^^ (((xe) ^^^ ((-1 : Int32))) &&& (xg)))), (0, .ref (q 4)), (1, .int xa), (9, .int (nI i))]) hx hb dX0_mixBlock_197 rfl hl (by decide) rfl (fun ls hl => ?_)
    refine lv_iload hx hb dX0_mixBlock_198 (lv_at hl 7 rfl) ?_
    refine lv_iload hx hb dX0_mixBlock_200 (lv_at hl 8 rfl) ?_
    refine lv_iadd hx hb dX0_mixBlock_202 ?_
    refine lv_iload hx hb dX0_mixBlock_203 (lv_at hl 10 rfl) ?_
    refine lv_iadd hx hb dX0_mixBlock_205 ?_
    refine lv_istore_n (lv' := [(1, .int (((((((xh) + (((tn (xe) ((6 : Int32))) ^^^ (tn (xe) ((11 : Int32)))) ^^^ (tn (xe) ((25 : Int32))))) + (((xe) &&& (xf)) ^^^ (((xe) ^^^ ((-1 : Int32))) &&& (xg)))) + (rwv (i))) + (sc (i))) + (((tn (xa) ((2 : Int32))) ^^^ (tn (xa) ((13 : Int32)))) ^^^ (tn (xa) ((22 : Int32))))) + ((((xa) &&& (xb)) ^^^ ((xa) &&& (xc))) ^^^ ((xb) &&& (xc))))), (2, .int xa), (3, .int xb), (4, .int xc), (5, .int ((xd) + (((((xh) + (((tn (xe) ((6 : Int32))) ^^^ (tn (xe) ((11 : Int32)))) ^^^ (tn (xe) ((25 : Int32))))) + (((xe) &&& (xf)) ^^^ (((xe) ^^^ ((-1 : Int32))) &&& (xg)))) + (rwv (i))) + (sc (i))))), (6, .int xe), (7, .int xf), (8, .int xg), (14, .int (((((xh) + (((tn (xe) ((6 : Int32))) ^^^ (tn (xe) ((11 : Int32)))) ^^^ (tn (xe) ((25 : Int32))))) + (((xe) &&& (xf)) ^^^ (((xe) ^^^ ((-1 : Int32))) &&& (xg)))) + (rwv (i))) + (sc (i)))), (13, .int (((tn (xa) ((2 : Int32))) ^^^ (tn (xa) ((13 : Int32)))) ^^^ (tn (xa) ((22 : Int32))))), (12, .int (((tn (xe) ((6 : Int32))) ^^^ (tn (xe) ((11 : Int32)))) ^^^ (tn (xe) ((25 : Int32))))), (11, .int ((((xa) &&& (xb)) ^^^ ((xa) &&& (xc))) ^^^ ((xb) &&& (xc)))), (10, .int (((xe) &&& (xf)) ^^^ (((xe) ^^^ ((-1 : Int32))) &&& (xg)))), (0, .ref (q 4)), (9, .int (nI i))]) hx hb dX0_mixBlock_206 rfl hl (by decide) rfl (fun ls hl => ?_)
    refine lv_iinc (v := (nI (i + 1))) (lv' := [(9, .int (nI (i + 1))), (1, .int (((((((xh) + (((tn (xe) ((6 : Int32))) ^^^ (tn (xe) ((11 : Int32)))) ^^^ (tn (xe) ((25 : Int32))))) + (((xe) &&& (xf)) ^^^ (((xe) ^^^ ((-1 : Int32))) &&& (xg)))) + (rwv (i))) + (sc (i))) + (((tn (xa) ((2 : Int32))) ^^^ (tn (xa) ((13 : Int32)))) ^^^ (tn (xa) ((22 : Int32))))) + ((((xa) &&& (xb)) ^^^ ((xa) &&& (xc))) ^^^ ((xb) &&& (xc))))), (2, .int xa), (3, .int xb), (4, .int xc), (5, .int ((xd) + (((((xh) + (((tn (xe) ((6 : Int32))) ^^^ (tn (xe) ((11 : Int32)))) ^^^ (tn (xe) ((25 : Int32))))) + (((xe) &&& (xf)) ^^^ (((xe) ^^^ ((-1 : Int32))) &&& (xg)))) + (rwv (i))) + (sc (i))))), (6, .int xe), (7, .int xf), (8, .int xg), (14, .int (((((xh) + (((tn (xe) ((6 : Int32))) ^^^ (tn (xe) ((11 : Int32)))) ^^^ (tn (xe) ((25 : Int32))))) + (((xe) &&& (xf)) ^^^ (((xe) ^^^ ((-1 : Int32))) &&& (xg)))) + (rwv (i))) + (sc (i)))), (13, .int (((tn (xa) ((2 : Int32))) ^^^ (tn (xa) ((13 : Int32)))) ^^^ (tn (xa) ((22 : Int32))))), (12, .int (((tn (xe) ((6 : Int32))) ^^^ (tn (xe) ((11 : Int32)))) ^^^ (tn (xe) ((25 : Int32))))), (11, .int ((((xa) &&& (xb)) ^^^ ((xa) &&& (xc))) ^^^ ((xb) &&& (xc)))), (10, .int (((xe) &&& (xf)) ^^^ (((xe) ^^^ ((-1 : Int32))) &&& (xg)))), (0, .ref (q 4))]) hx hb dX0_mixBlock_207 hl (k := 14) rfl (kn_inc _ _ 1 rfl) (by decide) rfl (fun ls hl => ?_)
    refine lv_goto (tgt := 66) hx hb dX0_mixBlock_210 (by decide) ?_
    exact ih hlt _ _ _ ⟨_, _, _, _, _, _, _, _, rds_s hI_0, hP, hD, hS, (lv_sub hl [14, 1, 2, 3, 4, 5, 6, 7, 8, 0] rfl)⟩

set_option maxHeartbeats 4000000 in
set_option maxRecDepth 100000 in
/-- finishInto: the eight words of the digest come at a -/
theorem c_D_finishInto (l : Launch) (D : va_G) (A : Nat → Prop) (q : Nat → Nat) (cB cI : ClassId) (tl lv lb ln : Nat) (tp : Nat → Int32) (ll : Nat → Nat) (id ms sc st : Nat → Int32) (a : Nat) (h1 : a + 8 ≤ 1624) (h2 : ln + pl ln ≤ 192) : Kv (S := (Nat × (Nat → Int32) × (Nat → Int32) × (Nat → Int32))) l yX0_finishInto wsX0_finishInto { frames := 2, cells := 0, slots := 0, locals := 55 } D vwCl [(cB, .byte), (cI, .int)] A (zk q) [.ref (q 4), .ref (q 3), .int (nI a)] (wk q cB cI tl lv lb ln tp ll id ms sc st) (fun _ => True) (fun u => wk q cB cI tl lv lb u.1 tp ll (cat id a (hm ms ln) 8) u.2.1 u.2.2.1 u.2.2.2) := by
  refine Met.ofW (cc := cX0_finishInto) (maxL := 4) (ret := none) (by decide) rfl ?_
  intro p e s m args below meth c s₁ B hml hv
  obtain ⟨rfl, hP, hK, hD, hZ⟩ := hv
  have hx := B.exec
  have hb := B.bytes
  have hr := B.returns
  have hts := atoms_spec (ws := wsX0_finishInto) B.pre
  have hown : s.vm.findClass RX0 = some m.cls := findClass_of_methodNamed B.named
  have hlocks := B.notSynchronized
  have hS : va_S A s.heap s.heap [] := va_S.rf
  have hin_0 : ∀ w ∈ u_ws RX0 TX0 4, w ∈ wsX0_finishInto := by decide +kernel
  have lk_19 := hts (.fieldLink RX0 19 "RootDesk$Digest" "state" "[I") (by decide +kernel)
  have lk_22 := hts (.fieldLink RX0 22 "RootDesk$Digest" "length" "I") (by decide +kernel)
  have lk_36 := hts (.fieldLink RX0 36 "RootDesk$Digest" "FIRST_STATE" "[I") (by decide +kernel)
  have hl := lv_entry ([.ref (q 4), .ref (q 3), .int (nI a)]) (n := 4) (Nat.le_of_ble_eq_true rfl)
  rw [lg_entry_eq]
  generalize (lg_sl ([.ref (q 4), .ref (q 3), .int (nI a)]) ++ List.replicate (4 - (lg_sl ([.ref (q 4), .ref (q 3), .int (nI a)])).length) Slot.unset).toArray = ls at hl ⊢
  have hl : lv_has ls 4 [(0, .ref (q 4)), (1, .ref (q 3)), (2, .int (nI a))] := hl
  refine lv_aload_n hx hb dX0_finishInto_0 rfl (lv_at hl 0 rfl) ?_
  refine kc_v (As := []) (rest := []) ⟨hx, hb, hml, hown, hts⟩ (c_D_pad l D A q cB cI tl lv lb ln tp ll id ms sc st (by omega)) (cwV 0 hts gX0_finishInto_X0_pad rfl rfl rfl (by decide +kernel) ⟨Nat.le_of_ble_eq_true rfl, Nat.le_of_ble_eq_true rfl⟩) (va_recv hK hP (ci := 0) (q0 := 4) rfl rfl) hK hP hD hS hZ rfl hl.1 rfl (Nat.le_of_ble_eq_true rfl) ⟨Nat.zero_le _, Nat.zero_le _⟩ dX0_finishInto_1 (fun _ H locs _ hP hD hS => ?_)
  have hP : va_P D vwCl (wk q cB cI tl lv lb (ln + pl ln) tp ll id (cat ms ln (pd ln) (pl ln)) sc st) H := hP
  have hD : va_D A (wk q cB cI tl lv lb (ln + pl ln) tp ll id (cat ms ln (pd ln) (pl ln)) sc st) := hD
  refine lv_iconst (v := (nI (0))) hx hb dX0_finishInto_4 (by decide) ?_
  refine lv_istore_n (lv' := [(3, .int (nI 0)), (0, .ref (q 4)), (1, .ref (q 3)), (2, .int (nI a))]) hx hb dX0_finishInto_5 rfl hl (by decide) rfl (fun ls hl => ?_)
  refine kp_lp (hd := 6) (nn := 8) (fun (i : Nat) (H : Heap) (locs : List Loc) (ls : Array Slot) => ∃ (st1 : Nat → Int32), (∀ j, j < i → st1 j = fsv j) ∧ va_P D vwCl (wk q cB cI tl lv lb (ln + pl ln) tp ll id (cat ms ln (pd ln) (pl ln)) sc st1) H ∧ va_D A (wk q cB cI tl lv lb (ln + pl ln) tp ll id (cat ms ln (pd ln) (pl ln)) sc st1) ∧ va_S A s.heap H locs ∧ lv_has ls 4 [(0, .ref (q 4)), (1, .ref (q 3)), (2, .int (nI a)), (3, .int (nI i))]) ?_ 0 (by omega) _ _ _ ⟨st, fun j hj => absurd hj (Nat.not_lt_zero j), hP, hD, hS, (lv_sub hl [1, 2, 3, 0] rfl)⟩
  intro i hiN H locs ls hI ih
  obtain ⟨st1, hI_0, hP, hD, hS, hl⟩ := hI
  refine lv_iload_n hx hb dX0_finishInto_6 rfl (lv_at hl 3 rfl) ?_
  refine lv_bipush (v := (nI (8))) hx hb dX0_finishInto_7 (by decide) ?_
  refine lv_icmp_ge (tgt := 29) hx hb dX0_finishInto_9 (by decide) (fun c_9 => ?_) (fun c_9 => ?_)
  · have c_9 : 8 ≤ i := kn_le c_9 (by omega) (by omega)
    have e9 : 8 = i := by omega
    subst e9
    refine lv_iconst (v := (nI (0))) hx hb dX0_finishInto_29 (by decide) ?_
    refine lv_istore_n (lv' := [(3, .int (nI 0)), (0, .ref (q 4)), (1, .ref (q 3)), (2, .int (nI a))]) hx hb dX0_finishInto_30 rfl hl (by decide) rfl (fun ls hl => ?_)
    refine kp_lp (hd := 31) (nn := (ln + pl ln) / 64) (fun (i : Nat) (H : Heap) (locs : List Loc) (ls : Array Slot) => ∃ (sc1 : Nat → Int32), ∃ (st1 : Nat → Int32), (∀ j, j < 8 → st1 j = shs (cat ms ln (pd ln) (pl ln)) i j) ∧ va_P D vwCl (wk q cB cI tl lv lb (ln + pl ln) tp ll id (cat ms ln (pd ln) (pl ln)) sc1 st1) H ∧ va_D A (wk q cB cI tl lv lb (ln + pl ln) tp ll id (cat ms ln (pd ln) (pl ln)) sc1 st1) ∧ va_S A s.heap H locs ∧ lv_has ls 4 [(0, .ref (q 4)), (1, .ref (q 3)), (2, .int (nI a)), (3, .int (nI (64 * i)))]) ?_ 0 (by omega) _ _ _ ⟨sc, st1, hI_0, hP, hD, hS, (lv_sub hl [1, 2, 3, 0] rfl)⟩
    intro i hiN H locs ls hI ih
    obtain ⟨sc1, st1, hI_0, hP, hD, hS, hl⟩ := hI
    refine lv_iload_n hx hb dX0_finishInto_31 rfl (lv_at hl 3 rfl) ?_
    refine lv_bipush (v := (nI (64))) hx hb dX0_finishInto_32 (by decide) ?_
    refine lv_iadd hx hb dX0_finishInto_34 ?_
    refine kp_i (nI_add _ _) ?_
    refine lv_aload_n hx hb dX0_finishInto_35 rfl (lv_at hl 0 rfl) ?_
    refine va_get (D := D) (ci := 0) (v := .int (nI (ln + pl ln))) (C := RX0) (T := TX0) (N := 4) hx hb hts hin_0 hown hK hP 4 rfl rfl 3 (by decide) lk_22 (fun _ h9 => h9) rfl dX0_finishInto_36 ?_
    refine lv_icmp_gt (tgt := 57) hx hb dX0_finishInto_39 (by decide) (fun c_39 => ?_) (fun c_39 => ?_)
    · have c_39 : (ln + pl ln) < ((64 * i) + 64) := kn_lt c_39 (by omega) (by omega)
      have e9 : (ln + pl ln) / 64 = i := by omega
      subst e9
      have hst : ∀ j, j < 8 → st1 j = hm ms ln j := hI_0
      refine lv_iload_n hx hb dX0_finishInto_57 rfl (lv_at hl 2 rfl) ?_
      refine lv_if_lt (tgt := 70) hx hb dX0_finishInto_58 (by decide) (fun c_58 => absurd c_58 (nI_pos (by omega))) (fun c_58 => ?_)
      refine lv_iload_n hx hb dX0_finishInto_61 rfl (lv_at hl 2 rfl) ?_
      refine lv_bipush (v := (nI (8))) hx hb dX0_finishInto_62 (by decide) ?_
      refine lv_iadd hx hb dX0_finishInto_64 ?_
      refine kp_i (nI_add _ _) ?_
      refine lv_aload_n hx hb dX0_finishInto_65 rfl (lv_at hl 1 rfl) ?_
      refine va_alen (v := nI 1624) hx hb hK hP 3 1 rfl rfl rfl dX0_finishInto_66 ?_
      refine lv_icmp_le (tgt := 71) hx hb dX0_finishInto_67 (by decide) (fun c_67 => ?_) (fun c_67 => absurd (kn_nle c_67 (by omega) (by omega)) (by omega))
      have c_67 : (a + 8) ≤ 1624 := kn_le c_67 (by omega) (by omega)
      rw [← cat_0 id a (hm ms ln)] at hP hD
      refine lv_iconst (v := (nI (0))) hx hb dX0_finishInto_71 (by decide) ?_
      refine lv_istore_n (lv' := [(3, .int (nI 0)), (0, .ref (q 4)), (1, .ref (q 3)), (2, .int (nI a))]) hx hb dX0_finishInto_72 rfl hl (by decide) rfl (fun ls hl => ?_)
      refine kp_lp (hd := 73) (nn := 8) (fun (i : Nat) (H : Heap) (locs : List Loc) (ls : Array Slot) => va_P D vwCl (wk q cB cI tl lv lb (ln + pl ln) tp ll (cat id a (hm ms ln) i) (cat ms ln (pd ln) (pl ln)) sc1 st1) H ∧ va_D A (wk q cB cI tl lv lb (ln + pl ln) tp ll (cat id a (hm ms ln) i) (cat ms ln (pd ln) (pl ln)) sc1 st1) ∧ va_S A s.heap H locs ∧ lv_has ls 4 [(0, .ref (q 4)), (1, .ref (q 3)), (2, .int (nI a)), (3, .int (nI i))]) ?_ 0 (by omega) _ _ _ ⟨hP, hD, hS, (lv_sub hl [1, 2, 3, 0] rfl)⟩
      intro i hiN H locs ls hI ih
      obtain ⟨hP, hD, hS, hl⟩ := hI
      refine lv_iload_n hx hb dX0_finishInto_73 rfl (lv_at hl 3 rfl) ?_
      refine lv_bipush (v := (nI (8))) hx hb dX0_finishInto_74 (by decide) ?_
      refine lv_icmp_ge (tgt := 96) hx hb dX0_finishInto_76 (by decide) (fun c_76 => ?_) (fun c_76 => ?_)
      · have c_76 : 8 ≤ i := kn_le c_76 (by omega) (by omega)
        have e9 : 8 = i := by omega
        subst e9
        exact kr_v ((ln + pl ln, cat ms ln (pd ln) (pl ln), sc1, st1)) hx hb hr hlocks hK hP hD hS (trivial) dX0_finishInto_96
      · have c_76 : i < 8 := kn_nle c_76 (by omega) (by omega)
        have hlt : i < 8 := c_76
        refine lv_aload_n hx hb dX0_finishInto_79 rfl (lv_at hl 1 rfl) ?_
        refine lv_iload_n hx hb dX0_finishInto_80 rfl (lv_at hl 2 rfl) ?_
        refine lv_iload_n hx hb dX0_finishInto_81 rfl (lv_at hl 3 rfl) ?_
        refine lv_iadd hx hb dX0_finishInto_82 ?_
        refine kp_i (nI_add _ _) ?_
        refine lv_aload_n hx hb dX0_finishInto_83 rfl (lv_at hl 0 rfl) ?_
        refine va_get (D := D) (ci := 0) (v := .ref (q 7)) (C := RX0) (T := TX0) (N := 4) hx hb hts hin_0 hown hK hP 4 rfl rfl 2 (by decide) lk_19 (fun _ h9 => h9) rfl dX0_finishInto_84 ?_
        refine lv_iload_n hx hb dX0_finishInto_87 rfl (lv_at hl 3 rfl) ?_
        refine kb_iald hx hb hK hP 7 1 rfl rfl (i) (rfl) (by omega) (by decide) dX0_finishInto_88 ?_
        refine kb_iast hx hb hK hP hD hS 3 1 rfl rfl (a + i) (rfl) (by omega) (by decide) dX0_finishInto_89 (fun H locs hP hD hS => ?_)
        have hP : va_P D vwCl (wk q cB cI tl lv lb (ln + pl ln) tp ll (upd (cat id a (hm ms ln) i) (a + i) ((st1 (i)))) (cat ms ln (pd ln) (pl ln)) sc1 st1) H := hP
        have hD : va_D A (wk q cB cI tl lv lb (ln + pl ln) tp ll (upd (cat id a (hm ms ln) i) (a + i) ((st1 (i)))) (cat ms ln (pd ln) (pl ln)) sc1 st1) := hD
        rw [cat_s _ _ _ _ (hst _ hlt)] at hP hD
        have hP : va_P D vwCl (wk q cB cI tl lv lb (ln + pl ln) tp ll (cat id a (hm ms ln) (i + 1)) (cat ms ln (pd ln) (pl ln)) sc1 st1) H := hP
        have hD : va_D A (wk q cB cI tl lv lb (ln + pl ln) tp ll (cat id a (hm ms ln) (i + 1)) (cat ms ln (pd ln) (pl ln)) sc1 st1) := hD
        refine lv_iinc (v := (nI (i + 1))) (lv' := [(3, .int (nI (i + 1))), (0, .ref (q 4)), (1, .ref (q 3)), (2, .int (nI a))]) hx hb dX0_finishInto_90 hl (k := 3) rfl (kn_inc _ _ 1 rfl) (by decide) rfl (fun ls hl => ?_)
        refine lv_goto (tgt := 73) hx hb dX0_finishInto_93 (by decide) ?_
        exact ih hlt _ _ _ ⟨hP, hD, hS, (lv_sub hl [1, 2, 3, 0] rfl)⟩
    · have c_39 : ((64 * i) + 64) ≤ (ln + pl ln) := kn_nlt c_39 (by omega) (by omega)
      have hlt : i < (ln + pl ln) / 64 := by omega
      refine lv_aload_n hx hb dX0_finishInto_42 rfl (lv_at hl 0 rfl) ?_
      refine lv_iload_n hx hb dX0_finishInto_43 rfl (lv_at hl 3 rfl) ?_
      refine kc_v (As := [.int (nI (64 * i))]) (rest := []) ⟨hx, hb, hml, hown, hts⟩ (c_D_fillSchedule l D A q cB cI tl lv lb (ln + pl ln) tp ll id (cat ms ln (pd ln) (pl ln)) sc1 st1 (64 * i) (by omega)) (cwV 1 hts gX0_finishInto_X0_fillSchedule rfl rfl rfl (by decide +kernel) ⟨Nat.le_of_ble_eq_true rfl, Nat.le_of_ble_eq_true rfl⟩) (va_recv hK hP (ci := 0) (q0 := 4) rfl rfl) hK hP hD hS hZ rfl hl.1 rfl (Nat.le_of_ble_eq_true rfl) ⟨Nat.zero_le _, Nat.zero_le _⟩ dX0_finishInto_44 (fun sc2 H locs hw_sc2 hP hD hS => ?_)
      have hP : va_P D vwCl (wk q cB cI tl lv lb (ln + pl ln) tp ll id (cat ms ln (pd ln) (pl ln)) sc2 st1) H := hP
      have hD : va_D A (wk q cB cI tl lv lb (ln + pl ln) tp ll id (cat ms ln (pd ln) (pl ln)) sc2 st1) := hD
      refine lv_aload_n hx hb dX0_finishInto_47 rfl (lv_at hl 0 rfl) ?_
      refine kc_v (As := []) (rest := []) ⟨hx, hb, hml, hown, hts⟩ (c_D_mixBlock l D A q cB cI tl lv lb (ln + pl ln) tp ll id (cat ms ln (pd ln) (pl ln)) sc2 st1) (cwV 0 hts gX0_finishInto_X0_mixBlock rfl rfl rfl (by decide +kernel) ⟨Nat.le_of_ble_eq_true rfl, Nat.le_of_ble_eq_true rfl⟩) (va_recv hK hP (ci := 0) (q0 := 4) rfl rfl) hK hP hD hS hZ rfl hl.1 rfl (Nat.le_of_ble_eq_true rfl) ⟨Nat.zero_le _, Nat.zero_le _⟩ dX0_finishInto_48 (fun st2 H locs hw_st2 hP hD hS => ?_)
      have hP : va_P D vwCl (wk q cB cI tl lv lb (ln + pl ln) tp ll id (cat ms ln (pd ln) (pl ln)) sc2 st2) H := hP
      have hD : va_D A (wk q cB cI tl lv lb (ln + pl ln) tp ll id (cat ms ln (pd ln) (pl ln)) sc2 st2) := hD
      refine lv_iinc (v := (nI (64 * (i + 1)))) (lv' := [(3, .int (nI (64 * (i + 1)))), (0, .ref (q 4)), (1, .ref (q 3)), (2, .int (nI a))]) hx hb dX0_finishInto_51 hl (k := 3) rfl (kn_inc _ _ 64 (by omega)) (by decide) rfl (fun ls hl => ?_)
      refine lv_goto (tgt := 31) hx hb dX0_finishInto_54 (by decide) ?_
      exact ih hlt _ _ _ ⟨_, _, shs_back hI_0 hw_sc2 hw_st2, hP, hD, hS, (lv_sub hl [1, 2, 3, 0] rfl)⟩
  · have c_9 : i < 8 := kn_nle c_9 (by omega) (by omega)
    have hlt : i < 8 := c_9
    refine lv_aload_n hx hb dX0_finishInto_12 rfl (lv_at hl 0 rfl) ?_
    refine va_get (D := D) (ci := 0) (v := .ref (q 7)) (C := RX0) (T := TX0) (N := 4) hx hb hts hin_0 hown hK hP 4 rfl rfl 2 (by decide) lk_19 (fun _ h9 => h9) rfl dX0_finishInto_13 ?_
    refine lv_iload_n hx hb dX0_finishInto_16 rfl (lv_at hl 3 rfl) ?_
    refine kz_get hx hb hZ hS 1 rfl hown lk_36 dX0_finishInto_17 ?_
    refine lv_iload_n hx hb dX0_finishInto_20 rfl (lv_at hl 3 rfl) ?_
    refine kz_ld hx hb hZ hS 1 rfl (i) (rfl) (by omega) (by decide) dX0_finishInto_21 ?_
    refine kb_iast hx hb hK hP hD hS 7 1 rfl rfl (i) (rfl) (by omega) (by decide) dX0_finishInto_22 (fun H locs hP hD hS => ?_)
    have hP : va_P D vwCl (wk q cB cI tl lv lb (ln + pl ln) tp ll id (cat ms ln (pd ln) (pl ln)) sc (upd st1 (i) ((fsv (i))))) H := hP
    have hD : va_D A (wk q cB cI tl lv lb (ln + pl ln) tp ll id (cat ms ln (pd ln) (pl ln)) sc (upd st1 (i) ((fsv (i))))) := hD
    refine lv_iinc (v := (nI (i + 1))) (lv' := [(3, .int (nI (i + 1))), (0, .ref (q 4)), (1, .ref (q 3)), (2, .int (nI a))]) hx hb dX0_finishInto_23 hl (k := 3) rfl (kn_inc _ _ 1 rfl) (by decide) rfl (fun ls hl => ?_)
    refine lv_goto (tgt := 6) hx hb dX0_finishInto_26 (by decide) ?_
    exact ih hlt _ _ _ ⟨_, upd_s hI_0 rfl, hP, hD, hS, (lv_sub hl [1, 2, 3, 0] rfl)⟩
