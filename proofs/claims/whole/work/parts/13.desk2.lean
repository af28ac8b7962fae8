set_option maxHeartbeats 4000000 in
set_option maxRecDepth 100000 in
theorem c_refreshAbove (l : Launch) (D : va_G) (A : Nat → Prop) (q : Nat → Nat) (cB cI : ClassId) (tl lv lb ln : Nat) (tp : Nat → Int32) (ll : Nat → Nat) (id ms sc st : Nat → Int32) (i0 : Nat) (h1 : i0 < lv) (h2 : lv ≤ 100) : Kv (S := (Nat × (Nat → Int32) × (Nat → Int32) × (Nat → Int32))) l yX1_refreshAbove wsX1_refreshAbove { frames := 4, cells := 0, slots := 0, locals := 101 } D vwCl [(cB, .byte), (cI, .int)] A (zk q) [.ref (q 0), .int (nI i0)] (wk q cB cI tl lv lb ln tp ll id ms sc st) (fun _ => True) (fun u => (wk q cB cI tl lv lb u.1 tp ll (rfa lv i0 id (rl lv)) u.2.1 u.2.2.1 u.2.2.2)) := by
  refine Met.ofW (cc := cX1_refreshAbove) (maxL := 7) (ret := none) (by decide) rfl ?_
  intro p e s m args below meth c s₁ B hml hv
  obtain ⟨rfl, hP, hK, hD, hZ⟩ := hv
  have hx := B.exec
  have hb := B.bytes
  have hr := B.returns
  have hts := atoms_spec (ws := wsX1_refreshAbove) B.pre
  have hown : s.vm.findClass RX1 = some m.cls := findClass_of_methodNamed B.named
  have hlocks := B.notSynchronized
  have hS : va_S A s.heap s.heap [] := va_S.rf
  have hin_1 : ∀ w ∈ u_ws RX1 TX1 7, w ∈ wsX1_refreshAbove := by decide +kernel
  have lk_31 := hts (.fieldLink RX1 31 "RootDesk" "leaves" "I") (by decide +kernel)
  have lk_63 := hts (.fieldLink RX1 63 "RootDesk" "LEVEL_START" "[I") (by decide +kernel)
  have hl := lv_entry ([.ref (q 0), .int (nI i0)]) (n := 7) (Nat.le_of_ble_eq_true rfl)
  rw [lg_entry_eq]
  generalize (lg_sl ([.ref (q 0), .int (nI i0)]) ++ List.replicate (7 - (lg_sl ([.ref (q 0), .int (nI i0)])).length) Slot.unset).toArray = ls at hl ⊢
  have hl : lv_has ls 7 [(0, .ref (q 0)), (1, .int (nI i0))] := hl
  refine lv_aload_n hx hb dX1_refreshAbove_0 rfl (lv_at hl 0 rfl) ?_
  refine va_get (D := D) (ci := 1) (v := .int (nI lv)) (C := RX1) (T := TX1) (N := 7) hx hb hts hin_1 hown hK hP 0 rfl rfl 3 (by decide) lk_31 (fun _ h9 => h9) rfl dX1_refreshAbove_1 ?_
  refine lv_istore_n (lv' := [(2, .int (nI lv)), (0, .ref (q 0)), (1, .int (nI i0))]) hx hb dX1_refreshAbove_4 rfl hl (by decide) rfl (fun ls hl => ?_)
  refine lv_iconst (v := (nI (0))) hx hb dX1_refreshAbove_5 (by decide) ?_
  refine lv_istore_n (lv' := [(3, .int (nI 0)), (2, .int (nI lv)), (0, .ref (q 0)), (1, .int (nI i0))]) hx hb dX1_refreshAbove_6 rfl hl (by decide) rfl (fun ls hl => ?_)
  refine kp_lp (hd := 7) (nn := rl lv) (fun (i : Nat) (H : Heap) (locs : List Loc) (ls : Array Slot) => ∃ (u : Nat × (Nat → Int32) × (Nat → Int32) × (Nat → Int32)), va_P D vwCl (wk q cB cI tl lv lb u.1 tp ll (rfa lv i0 id i) u.2.1 u.2.2.1 u.2.2.2) H ∧ va_D A (wk q cB cI tl lv lb u.1 tp ll (rfa lv i0 id i) u.2.1 u.2.2.1 u.2.2.2) ∧ va_S A s.heap H locs ∧ lv_has ls 7 [(0, .ref (q 0)), (1, .int (nI i0)), (2, .int (nI (wdl lv i))), (3, .int (nI i))]) ?_ 0 (by omega) _ _ _ ⟨(ln, ms, sc, st), hP, hD, hS, (lv_sub hl [2, 3, 1, 0] rfl)⟩
  intro i hiN H locs ls hI ih
  obtain ⟨u, hP, hD, hS, hl⟩ := hI
  have hwi := wdl_le lv i
  have hr8 := rl_lt lv
  have hdv : i0 / 2 ^ i ≤ i0 := Nat.div_le_self _ _
  refine lv_iload_n hx hb dX1_refreshAbove_7 rfl (lv_at hl 3 rfl) ?_
  refine lv_iconst (v := (nI (1))) hx hb dX1_refreshAbove_8 (by decide) ?_
  refine lv_iadd hx hb dX1_refreshAbove_9 ?_
  refine kp_i (nI_add _ _) ?_
  refine lv_bipush (v := (nI (8))) hx hb dX1_refreshAbove_10 (by decide) ?_
  refine lv_icmp_ge (tgt := 95) hx hb dX1_refreshAbove_12 (by decide) (fun c_12 => ?_) (fun c_12 => ?_)
  · have c_12 : 8 ≤ (i + 1) := kn_le c_12 (by omega) (by omega)
    have e9 : rl lv = i := by omega
    subst e9
    exact kr_v (u) hx hb hr hlocks hK hP hD hS (trivial) dX1_refreshAbove_95
  · have c_12 : (i + 1) < 8 := kn_nle c_12 (by omega) (by omega)
    refine lv_iload_n hx hb dX1_refreshAbove_15 rfl (lv_at hl 2 rfl) ?_
    refine lv_iconst (v := (nI (1))) hx hb dX1_refreshAbove_16 (by decide) ?_
    refine lv_icmp_le (tgt := 95) hx hb dX1_refreshAbove_17 (by decide) (fun c_17 => ?_) (fun c_17 => ?_)
    · have c_17 : (wdl lv i) ≤ 1 := kn_le c_17 (by omega) (by omega)
      have e9 : rl lv = i := (rl_at (by omega) hiN c_17).symm
      subst e9
      exact kr_v (u) hx hb hr hlocks hK hP hD hS (trivial) dX1_refreshAbove_95
    · have c_17 : 1 < (wdl lv i) := kn_nle c_17 (by omega) (by omega)
      have hlt : i < rl lv := rl_nat (by omega) hiN c_17
      have hft := fit_f h1 h2 hlt
      have hfa := fit_a h1 h2 hlt
      refine lv_iload_n hx hb dX1_refreshAbove_20 rfl (lv_at hl 1 rfl) ?_
      refine lv_iload_n hx hb dX1_refreshAbove_21 rfl (lv_at hl 3 rfl) ?_
      refine lv_ishr hx hb dX1_refreshAbove_22 ?_
      refine kp_i (y := (nI (i0 / 2 ^ i))) (nt_sh (by omega) (by omega)) ?_
      refine lv_istore (lv' := [(4, .int (nI (i0 / 2 ^ i))), (0, .ref (q 0)), (1, .int (nI i0)), (2, .int (nI (wdl lv i))), (3, .int (nI i))]) hx hb dX1_refreshAbove_23 hl (by decide) rfl (fun ls hl => ?_)
      refine kz_get hx hb hZ hS 0 rfl hown lk_63 dX1_refreshAbove_25 ?_
      refine lv_iload_n hx hb dX1_refreshAbove_28 rfl (lv_at hl 4 rfl) ?_
      refine kz_ld hx hb hZ hS 0 rfl (i) (rfl) (by omega) (by decide) dX1_refreshAbove_29 ?_
      refine lv_iload hx hb dX1_refreshAbove_30 (lv_at hl 0 rfl) ?_
      refine lv_bipush (v := ((-2 : Int32))) hx hb dX1_refreshAbove_32 (by decide) ?_
      refine lv_iand hx hb dX1_refreshAbove_34 ?_
      refine kp_i (y := (nI (i0 / 2 ^ i / 2 * 2))) (nt_ev _ (by omega)) ?_
      refine lv_iadd hx hb dX1_refreshAbove_35 ?_
      refine kp_i (nI_add _ _) ?_
      refine lv_istore (lv' := [(5, .int (nI ((lsv (i)) + (i0 / 2 ^ i / 2 * 2)))), (4, .int (nI (i0 / 2 ^ i))), (0, .ref (q 0)), (1, .int (nI i0)), (2, .int (nI (wdl lv i))), (3, .int (nI i))]) hx hb dX1_refreshAbove_36 hl (by decide) rfl (fun ls hl => ?_)
      refine kz_get hx hb hZ hS 0 rfl hown lk_63 dX1_refreshAbove_38 ?_
      refine lv_iload_n hx hb dX1_refreshAbove_41 rfl (lv_at hl 5 rfl) ?_
      refine lv_iconst (v := (nI (1))) hx hb dX1_refreshAbove_42 (by decide) ?_
      refine lv_iadd hx hb dX1_refreshAbove_43 ?_
      refine kp_i (nI_add _ _) ?_
      refine kz_ld hx hb hZ hS 0 rfl (i + 1) (rfl) (by omega) (by decide) dX1_refreshAbove_44 ?_
      refine lv_iload hx hb dX1_refreshAbove_45 (lv_at hl 1 rfl) ?_
      refine lv_iconst (v := (nI (1))) hx hb dX1_refreshAbove_47 (by decide) ?_
      refine lv_ishr hx hb dX1_refreshAbove_48 ?_
      refine kp_i (y := (nI (i0 / 2 ^ (i + 1)))) (nt_hf2 (by omega)) ?_
      refine lv_iadd hx hb dX1_refreshAbove_49 ?_
      refine kp_i (nI_add _ _) ?_
      refine lv_istore (lv' := [(6, .int (nI ((lsv (i + 1)) + (i0 / 2 ^ (i + 1))))), (5, .int (nI ((lsv (i)) + (i0 / 2 ^ i / 2 * 2)))), (4, .int (nI (i0 / 2 ^ i))), (0, .ref (q 0)), (1, .int (nI i0)), (2, .int (nI (wdl lv i))), (3, .int (nI i))]) hx hb dX1_refreshAbove_50 hl (by decide) rfl (fun ls hl => ?_)
      refine lv_iload hx hb dX1_refreshAbove_52 (lv_at hl 2 rfl) ?_
      refine lv_iload_n hx hb dX1_refreshAbove_54 rfl (lv_at hl 5 rfl) ?_
      refine kcs_i (As := [.int (nI (i0 / 2 ^ i)), .int (nI (wdl lv i))]) (rest := []) ⟨hx, hb, hml, hown, hts⟩ (c_hasOneBeside l D A q cB cI (wk q cB cI tl lv lb u.1 tp ll (rfa lv i0 id i) u.2.1 u.2.2.1 u.2.2.2) (i0 / 2 ^ i) (wdl lv i) (by omega) (by omega)) (cwS 2 hts gX1_refreshAbove_X1_hasOneBeside rfl rfl rfl (by decide +kernel) ⟨Nat.le_of_ble_eq_true rfl, Nat.le_of_ble_eq_true rfl⟩) hK hP hD hS hZ rfl hl.1 rfl (Nat.le_of_ble_eq_true rfl) ⟨Nat.zero_le _, Nat.zero_le _⟩ dX1_refreshAbove_55 (fun r_1 _ H locs hw hP hD hS => ?_)
      have hw : r_1 = (bz (decide (xo (i0 / 2 ^ i) < (wdl lv i)))) := hw
      subst hw
      have hP : va_P D vwCl (wk q cB cI tl lv lb u.1 tp ll (rfa lv i0 id i) u.2.1 u.2.2.1 u.2.2.2) H := hP
      have hD : va_D A (wk q cB cI tl lv lb u.1 tp ll (rfa lv i0 id i) u.2.1 u.2.2.1 u.2.2.2) := hD
      refine lv_if_eq (tgt := 76) hx hb dX1_refreshAbove_58 (by decide) (fun c_58 => ?_) (fun c_58 => ?_)
      · have c_58 : (decide (xo (i0 / 2 ^ i) < (wdl lv i))) = false := bz_0 c_58
        have c_58 : hbt lv i0 i = false := c_58
        refine lv_aload_n hx hb dX1_refreshAbove_76 rfl (lv_at hl 3 rfl) ?_
        refine lv_iload hx hb dX1_refreshAbove_77 (lv_at hl 1 rfl) ?_
        refine lv_iload hx hb dX1_refreshAbove_79 (lv_at hl 0 rfl) ?_
        refine kc_v (As := [.int (nI ((lsv (i)) + (i0 / 2 ^ i / 2 * 2))), .int (nI ((lsv (i + 1)) + (i0 / 2 ^ (i + 1))))]) (rest := []) ⟨hx, hb, hml, hown, hts⟩ (c_copyId l D A q cB cI tl lv lb u.1 tp ll (rfa lv i0 id i) u.2.1 u.2.2.1 u.2.2.2 ((lsv (i)) + (i0 / 2 ^ i / 2 * 2)) ((lsv (i + 1)) + (i0 / 2 ^ (i + 1))) (by omega) (by omega) (by omega)) (cwV 2 hts gX1_refreshAbove_X1_copyId rfl rfl rfl (by decide +kernel) ⟨Nat.le_of_ble_eq_true rfl, Nat.le_of_ble_eq_true rfl⟩) (va_recv hK hP (ci := 1) (q0 := 0) rfl rfl) hK hP hD hS hZ rfl hl.1 rfl (Nat.le_of_ble_eq_true rfl) ⟨Nat.zero_le _, Nat.zero_le _⟩ dX1_refreshAbove_81 (fun _ H locs _ hP hD hS => ?_)
        have hP : va_P D vwCl (wk q cB cI tl lv lb u.1 tp ll (pn (rfa lv i0 id i) ((lsv (i + 1)) + (i0 / 2 ^ (i + 1))) (nd (rfa lv i0 id i) ((lsv (i)) + (i0 / 2 ^ i / 2 * 2)))) u.2.1 u.2.2.1 u.2.2.2) H := hP
        have hD : va_D A (wk q cB cI tl lv lb u.1 tp ll (pn (rfa lv i0 id i) ((lsv (i + 1)) + (i0 / 2 ^ (i + 1))) (nd (rfa lv i0 id i) ((lsv (i)) + (i0 / 2 ^ i / 2 * 2)))) u.2.1 u.2.2.1 u.2.2.2) := hD
        rw [← rfa_f c_58] at hP hD
        have hP : va_P D vwCl (wk q cB cI tl lv lb u.1 tp ll (rfa lv i0 id (i + 1)) u.2.1 u.2.2.1 u.2.2.2) H := hP
        have hD : va_D A (wk q cB cI tl lv lb u.1 tp ll (rfa lv i0 id (i + 1)) u.2.1 u.2.2.1 u.2.2.2) := hD
        refine lv_iload_n hx hb dX1_refreshAbove_84 rfl (lv_at hl 5 rfl) ?_
        refine kcs_i (As := [.int (nI (wdl lv i))]) (rest := []) ⟨hx, hb, hml, hown, hts⟩ (c_widthAbove l D A q cB cI (wk q cB cI tl lv lb u.1 tp ll (rfa lv i0 id (i + 1)) u.2.1 u.2.2.1 u.2.2.2) (wdl lv i) (by omega)) (cwS 1 hts gX1_refreshAbove_X1_widthAbove rfl rfl rfl (by decide +kernel) ⟨Nat.le_of_ble_eq_true rfl, Nat.le_of_ble_eq_true rfl⟩) hK hP hD hS hZ rfl hl.1 rfl (Nat.le_of_ble_eq_true rfl) ⟨Nat.zero_le _, Nat.zero_le _⟩ dX1_refreshAbove_85 (fun r_3 _ H locs hw hP hD hS => ?_)
        have hw : r_3 = (nI (((wdl lv i) + 1) / 2)) := hw
        subst hw
        have hP : va_P D vwCl (wk q cB cI tl lv lb u.1 tp ll (rfa lv i0 id (i + 1)) u.2.1 u.2.2.1 u.2.2.2) H := hP
        have hD : va_D A (wk q cB cI tl lv lb u.1 tp ll (rfa lv i0 id (i + 1)) u.2.1 u.2.2.1 u.2.2.2) := hD
        refine lv_istore_n (lv' := [(2, .int (nI (((wdl lv i) + 1) / 2))), (6, .int (nI ((lsv (i + 1)) + (i0 / 2 ^ (i + 1))))), (5, .int (nI ((lsv (i)) + (i0 / 2 ^ i / 2 * 2)))), (4, .int (nI (i0 / 2 ^ i))), (0, .ref (q 0)), (1, .int (nI i0)), (3, .int (nI i))]) hx hb dX1_refreshAbove_88 rfl hl (by decide) rfl (fun ls hl => ?_)
        refine lv_iinc (v := (nI (i + 1))) (lv' := [(3, .int (nI (i + 1))), (2, .int (nI (((wdl lv i) + 1) / 2))), (6, .int (nI ((lsv (i + 1)) + (i0 / 2 ^ (i + 1))))), (5, .int (nI ((lsv (i)) + (i0 / 2 ^ i / 2 * 2)))), (4, .int (nI (i0 / 2 ^ i))), (0, .ref (q 0)), (1, .int (nI i0))]) hx hb dX1_refreshAbove_89 hl (k := 6) rfl (kn_inc _ _ 1 rfl) (by decide) rfl (fun ls hl => ?_)
        refine lv_goto (tgt := 7) hx hb dX1_refreshAbove_92 (by decide) ?_
        exact ih hlt _ _ _ ⟨u, hP, hD, hS, (lv_sub hl [5, 6, 1, 0] rfl)⟩
      · have c_58 : (decide (xo (i0 / 2 ^ i) < (wdl lv i))) = true := bz_1 c_58
        have c_58 : hbt lv i0 i = true := c_58
        refine lv_aload_n hx hb dX1_refreshAbove_61 rfl (lv_at hl 3 rfl) ?_
        refine lv_iload hx hb dX1_refreshAbove_62 (lv_at hl 1 rfl) ?_
        refine lv_iload hx hb dX1_refreshAbove_64 (lv_at hl 1 rfl) ?_
        refine lv_iconst (v := (nI (1))) hx hb dX1_refreshAbove_66 (by decide) ?_
        refine lv_iadd hx hb dX1_refreshAbove_67 ?_
        refine kp_i (nI_add _ _) ?_
        refine lv_iload hx hb dX1_refreshAbove_68 (lv_at hl 0 rfl) ?_
        refine kc_v (As := [.int (nI ((lsv (i)) + (i0 / 2 ^ i / 2 * 2))), .int (nI (((lsv (i)) + (i0 / 2 ^ i / 2 * 2)) + 1)), .int (nI ((lsv (i + 1)) + (i0 / 2 ^ (i + 1))))]) (rest := []) ⟨hx, hb, hml, hown, hts⟩ (c_join l D A q cB cI tl lv lb u.1 tp ll (rfa lv i0 id i) u.2.1 u.2.2.1 u.2.2.2 ((lsv (i)) + (i0 / 2 ^ i / 2 * 2)) (((lsv (i)) + (i0 / 2 ^ i / 2 * 2)) + 1) ((lsv (i + 1)) + (i0 / 2 ^ (i + 1))) (by omega) (by omega) (by omega)) (cwV 3 hts gX1_refreshAbove_X1_join rfl rfl rfl (by decide +kernel) ⟨Nat.le_of_ble_eq_true rfl, Nat.le_of_ble_eq_true rfl⟩) (va_recv hK hP (ci := 1) (q0 := 0) rfl rfl) hK hP hD hS hZ rfl hl.1 rfl (Nat.le_of_ble_eq_true rfl) ⟨Nat.zero_le _, Nat.zero_le _⟩ dX1_refreshAbove_70 (fun u_4 H locs _ hP hD hS => ?_)
        have hP : va_P D vwCl (wk q cB cI tl lv lb u_4.1 tp ll (pn (rfa lv i0 id i) ((lsv (i + 1)) + (i0 / 2 ^ (i + 1))) (ndh (nd (rfa lv i0 id i) ((lsv (i)) + (i0 / 2 ^ i / 2 * 2))) (nd (rfa lv i0 id i) (((lsv (i)) + (i0 / 2 ^ i / 2 * 2)) + 1)))) u_4.2.1 u_4.2.2.1 u_4.2.2.2) H := hP
        have hD : va_D A (wk q cB cI tl lv lb u_4.1 tp ll (pn (rfa lv i0 id i) ((lsv (i + 1)) + (i0 / 2 ^ (i + 1))) (ndh (nd (rfa lv i0 id i) ((lsv (i)) + (i0 / 2 ^ i / 2 * 2))) (nd (rfa lv i0 id i) (((lsv (i)) + (i0 / 2 ^ i / 2 * 2)) + 1)))) u_4.2.1 u_4.2.2.1 u_4.2.2.2) := hD
        rw [← rfa_t c_58] at hP hD
        have hP : va_P D vwCl (wk q cB cI tl lv lb u_4.1 tp ll (rfa lv i0 id (i + 1)) u_4.2.1 u_4.2.2.1 u_4.2.2.2) H := hP
        have hD : va_D A (wk q cB cI tl lv lb u_4.1 tp ll (rfa lv i0 id (i + 1)) u_4.2.1 u_4.2.2.1 u_4.2.2.2) := hD
        refine lv_goto (tgt := 84) hx hb dX1_refreshAbove_73 (by decide) ?_
        refine lv_iload_n hx hb dX1_refreshAbove_84 rfl (lv_at hl 5 rfl) ?_
        refine kcs_i (As := [.int (nI (wdl lv i))]) (rest := []) ⟨hx, hb, hml, hown, hts⟩ (c_widthAbove l D A q cB cI (wk q cB cI tl lv lb u_4.1 tp ll (rfa lv i0 id (i + 1)) u_4.2.1 u_4.2.2.1 u_4.2.2.2) (wdl lv i) (by omega)) (cwS 1 hts gX1_refreshAbove_X1_widthAbove rfl rfl rfl (by decide +kernel) ⟨Nat.le_of_ble_eq_true rfl, Nat.le_of_ble_eq_true rfl⟩) hK hP hD hS hZ rfl hl.1 rfl (Nat.le_of_ble_eq_true rfl) ⟨Nat.zero_le _, Nat.zero_le _⟩ dX1_refreshAbove_85 (fun r_5 _ H locs hw hP hD hS => ?_)
        have hw : r_5 = (nI (((wdl lv i) + 1) / 2)) := hw
        subst hw
        have hP : va_P D vwCl (wk q cB cI tl lv lb u_4.1 tp ll (rfa lv i0 id (i + 1)) u_4.2.1 u_4.2.2.1 u_4.2.2.2) H := hP
        have hD : va_D A (wk q cB cI tl lv lb u_4.1 tp ll (rfa lv i0 id (i + 1)) u_4.2.1 u_4.2.2.1 u_4.2.2.2) := hD
        refine lv_istore_n (lv' := [(2, .int (nI (((wdl lv i) + 1) / 2))), (6, .int (nI ((lsv (i + 1)) + (i0 / 2 ^ (i + 1))))), (5, .int (nI ((lsv (i)) + (i0 / 2 ^ i / 2 * 2)))), (4, .int (nI (i0 / 2 ^ i))), (0, .ref (q 0)), (1, .int (nI i0)), (3, .int (nI i))]) hx hb dX1_refreshAbove_88 rfl hl (by decide) rfl (fun ls hl => ?_)
        refine lv_iinc (v := (nI (i + 1))) (lv' := [(3, .int (nI (i + 1))), (2, .int (nI (((wdl lv i) + 1) / 2))), (6, .int (nI ((lsv (i + 1)) + (i0 / 2 ^ (i + 1))))), (5, .int (nI ((lsv (i)) + (i0 / 2 ^ i / 2 * 2)))), (4, .int (nI (i0 / 2 ^ i))), (0, .ref (q 0)), (1, .int (nI i0))]) hx hb dX1_refreshAbove_89 hl (k := 6) rfl (kn_inc _ _ 1 rfl) (by decide) rfl (fun ls hl => ?_)
        refine lv_goto (tgt := 7) hx hb dX1_refreshAbove_92 (by decide) ?_
        exact ih hlt _ _ _ ⟨u_4, hP, hD, hS, (lv_sub hl [5, 6, 1, 0] rfl)⟩

set_option maxHeartbeats 4000000 in
set_option maxRecDepth 100000 in
theorem c_levelOfStep (l : Launch) (D : va_G) (A : Nat → Prop) (q : Nat → Nat) (cB cI : ClassId) (tl lv lb ln : Nat) (tp : Nat → Int32) (ll : Nat → Nat) (id ms sc st : Nat → Int32) (x : Int32) (y : Int32) (h1 : lv ≤ 100) : Ki (S := Unit) l yX1_levelOfStep wsX1_levelOfStep { frames := 1, cells := 0, slots := 0, locals := 21 } D vwCl [(cB, .byte), (cI, .int)] A (zk q) [.ref (q 0), .int x, .int y] (wk q cB cI tl lv lb ln tp ll id ms sc st) (fun r _ => los lv x y r) (fun _ => (wk q cB cI tl lv lb ln tp ll id ms sc st)) := by
  refine Met.ofW (cc := cX1_levelOfStep) (maxL := 6) (ret := (some .int)) (by decide) rfl ?_
  intro p e s m args below meth c s₁ B hml hv
  obtain ⟨rfl, hP, hK, hD, hZ⟩ := hv
  have hx := B.exec
  have hb := B.bytes
  have hr := B.returns
  have hts := atoms_spec (ws := wsX1_levelOfStep) B.pre
  have hown : s.vm.findClass RX1 = some m.cls := findClass_of_methodNamed B.named
  have hlocks := B.notSynchronized
  have hS : va_S A s.heap s.heap [] := va_S.rf
  have hin_1 : ∀ w ∈ u_ws RX1 TX1 7, w ∈ wsX1_levelOfStep := by decide +kernel
  have lk_31 := hts (.fieldLink RX1 31 "RootDesk" "leaves" "I") (by decide +kernel)
  have hl := lv_entry ([.ref (q 0), .int x, .int y]) (n := 6) (Nat.le_of_ble_eq_true rfl)
  rw [lg_entry_eq]
  generalize (lg_sl ([.ref (q 0), .int x, .int y]) ++ List.replicate (6 - (lg_sl ([.ref (q 0), .int x, .int y])).length) Slot.unset).toArray = ls at hl ⊢
  have hl : lv_has ls 6 [(0, .ref (q 0)), (1, .int x), (2, .int y)] := hl
  refine lv_aload_n hx hb dX1_levelOfStep_0 rfl (lv_at hl 0 rfl) ?_
  refine lv_iload_n hx hb dX1_levelOfStep_1 rfl (lv_at hl 1 rfl) ?_
  refine kc_i (As := [.int x]) (rest := []) ⟨hx, hb, hml, hown, hts⟩ (c_isLeaf l D A q cB cI tl lv lb ln tp ll id ms sc st ((x))) (cwV 1 hts gX1_levelOfStep_X1_isLeaf rfl rfl rfl (by decide +kernel) ⟨Nat.le_of_ble_eq_true rfl, Nat.le_of_ble_eq_true rfl⟩) (va_recv hK hP (ci := 1) (q0 := 0) rfl rfl) hK hP hD hS hZ rfl hl.1 rfl (Nat.le_of_ble_eq_true rfl) ⟨Nat.zero_le _, Nat.zero_le _⟩ dX1_levelOfStep_2 (fun r_1 _ H locs hw hP hD hS => ?_)
  have hw : r_1 = (bz (lf (x) lv)) := hw
  subst hw
  have hP : va_P D vwCl (wk q cB cI tl lv lb ln tp ll id ms sc st) H := hP
  have hD : va_D A (wk q cB cI tl lv lb ln tp ll id ms sc st) := hD
  refine lv_if_eq (tgt := 12) hx hb dX1_levelOfStep_5 (by decide) (fun c_5 => ?_) (fun c_5 => ?_)
  · have c_5 : (lf (x) lv) = false := bz_0 c_5
    refine lv_iconst (v := ((-1 : Int32))) hx hb dX1_levelOfStep_12 (by decide) ?_
    exact kr_i (()) hx hb hr hlocks hK hP hD hS (by first | exact los_b c_9 | exact los_a (by omega) c_5) dX1_levelOfStep_13
  · have c_5 : (lf (x) lv) = true := bz_1 c_5
    refine lv_iload_n hx hb dX1_levelOfStep_8 rfl (lv_at hl 2 rfl) ?_
    refine lv_if_ge (tgt := 14) hx hb dX1_levelOfStep_9 (by decide) (fun c_9 => ?_) (fun c_9 => ?_)
    · obtain ⟨i0, hi0, rfl⟩ := lf_t (by omega) c_5
      obtain ⟨J, hJ, rfl⟩ := kn_of0 c_9
      refine lv_iconst (v := (nI (0))) hx hb dX1_levelOfStep_14 (by decide) ?_
      refine lv_istore_n (lv' := [(3, .int (nI 0)), (0, .ref (q 0)), (1, .int (nI i0)), (2, .int (nI J))]) hx hb dX1_levelOfStep_15 rfl hl (by decide) rfl (fun ls hl => ?_)
      refine lv_aload_n hx hb dX1_levelOfStep_16 rfl (lv_at hl 1 rfl) ?_
      refine va_get (D := D) (ci := 1) (v := .int (nI lv)) (C := RX1) (T := TX1) (N := 7) hx hb hts hin_1 hown hK hP 0 rfl rfl 3 (by decide) lk_31 (fun _ h9 => h9) rfl dX1_levelOfStep_17 ?_
      refine lv_istore (lv' := [(4, .int (nI lv)), (3, .int (nI 0)), (0, .ref (q 0)), (1, .int (nI i0)), (2, .int (nI J))]) hx hb dX1_levelOfStep_20 hl (by decide) rfl (fun ls hl => ?_)
      refine lv_iconst (v := (nI (0))) hx hb dX1_levelOfStep_22 (by decide) ?_
      refine lv_istore (lv' := [(5, .int (nI 0)), (4, .int (nI lv)), (3, .int (nI 0)), (0, .ref (q 0)), (1, .int (nI i0)), (2, .int (nI J))]) hx hb dX1_levelOfStep_23 hl (by decide) rfl (fun ls hl => ?_)
      refine kp_lp (hd := 25) (nn := 8) (fun (i : Nat) (H : Heap) (locs : List Loc) (ls : Array Slot) => (∀ t, t < i → hbt lv i0 t = true → stc lv i0 t ≠ J) ∧ va_P D vwCl (wk q cB cI tl lv lb ln tp ll id ms sc st) H ∧ va_D A (wk q cB cI tl lv lb ln tp ll id ms sc st) ∧ va_S A s.heap H locs ∧ lv_has ls 6 [(0, .ref (q 0)), (1, .int (nI i0)), (2, .int (nI J)), (3, .int (nI (stc lv i0 i))), (4, .int (nI (wdl lv i))), (5, .int (nI i))]) ?_ 0 (by omega) _ _ _ ⟨fun t ht => absurd ht (Nat.not_lt_zero t), hP, hD, hS, (lv_sub hl [3, 4, 5, 2, 1, 0] rfl)⟩
      intro i hiN H locs ls hI ih
      obtain ⟨hI_0, hP, hD, hS, hl⟩ := hI
      have hwi := wdl_le lv i
      have hst := stc_le lv i0 i
      have hdv : i0 / 2 ^ i ≤ i0 := Nat.div_le_self _ _
      refine lv_iload hx hb dX1_levelOfStep_25 (lv_at hl 5 rfl) ?_
      refine lv_bipush (v := (nI (8))) hx hb dX1_levelOfStep_27 (by decide) ?_
      refine lv_icmp_ge (tgt := 68) hx hb dX1_levelOfStep_29 (by decide) (fun c_29 => ?_) (fun c_29 => ?_)
      · have c_29 : 8 ≤ i := kn_le c_29 (by omega) (by omega)
        have e9 : 8 = i := by omega
        subst e9
        refine lv_iconst (v := ((-1 : Int32))) hx hb dX1_levelOfStep_68 (by decide) ?_
        exact kr_i (()) hx hb hr hlocks hK hP hD hS (los_n h1 hi0 hJ hI_0) dX1_levelOfStep_69
      · have c_29 : i < 8 := kn_nle c_29 (by omega) (by omega)
        have hlt : i < 8 := c_29
        refine lv_iload_n hx hb dX1_levelOfStep_32 rfl (lv_at hl 1 rfl) ?_
        refine lv_iload hx hb dX1_levelOfStep_33 (lv_at hl 5 rfl) ?_
        refine lv_ishr hx hb dX1_levelOfStep_35 ?_
        refine kp_i (y := (nI (i0 / 2 ^ i))) (nt_sh (by omega) (by omega)) ?_
        refine lv_iload hx hb dX1_levelOfStep_36 (lv_at hl 4 rfl) ?_
        refine kcs_i (As := [.int (nI (i0 / 2 ^ i)), .int (nI (wdl lv i))]) (rest := []) ⟨hx, hb, hml, hown, hts⟩ (c_hasOneBeside l D A q cB cI (wk q cB cI tl lv lb ln tp ll id ms sc st) (i0 / 2 ^ i) (wdl lv i) (by omega) (by omega)) (cwS 2 hts gX1_levelOfStep_X1_hasOneBeside rfl rfl rfl (by decide +kernel) ⟨Nat.le_of_ble_eq_true rfl, Nat.le_of_ble_eq_true rfl⟩) hK hP hD hS hZ rfl hl.1 rfl (Nat.le_of_ble_eq_true rfl) ⟨Nat.zero_le _, Nat.zero_le _⟩ dX1_levelOfStep_38 (fun r_2 _ H locs hw hP hD hS => ?_)
        have hw : r_2 = (bz (decide (xo (i0 / 2 ^ i) < (wdl lv i)))) := hw
        subst hw
        have hP : va_P D vwCl (wk q cB cI tl lv lb ln tp ll id ms sc st) H := hP
        have hD : va_D A (wk q cB cI tl lv lb ln tp ll id ms sc st) := hD
        refine lv_if_eq (tgt := 55) hx hb dX1_levelOfStep_41 (by decide) (fun c_41 => ?_) (fun c_41 => ?_)
        · have c_41 : (decide (xo (i0 / 2 ^ i) < (wdl lv i))) = false := bz_0 c_41
          have c_41 : hbt lv i0 i = false := c_41
          have hl : lv_has ls 6 [(0, .ref (q 0)), (1, .int (nI i0)), (2, .int (nI J)), (3, .int (nI (stc lv i0 (i + 1)))), (4, .int (nI (wdl lv i))), (5, .int (nI i))] := by rw [stc_f c_41]; exact hl
          refine lv_iload hx hb dX1_levelOfStep_55 (lv_at hl 4 rfl) ?_
          refine kcs_i (As := [.int (nI (wdl lv i))]) (rest := []) ⟨hx, hb, hml, hown, hts⟩ (c_widthAbove l D A q cB cI (wk q cB cI tl lv lb ln tp ll id ms sc st) (wdl lv i) (by omega)) (cwS 1 hts gX1_levelOfStep_X1_widthAbove rfl rfl rfl (by decide +kernel) ⟨Nat.le_of_ble_eq_true rfl, Nat.le_of_ble_eq_true rfl⟩) hK hP hD hS hZ rfl hl.1 rfl (Nat.le_of_ble_eq_true rfl) ⟨Nat.zero_le _, Nat.zero_le _⟩ dX1_levelOfStep_57 (fun r_3 _ H locs hw hP hD hS => ?_)
          have hw : r_3 = (nI (((wdl lv i) + 1) / 2)) := hw
          subst hw
          have hP : va_P D vwCl (wk q cB cI tl lv lb ln tp ll id ms sc st) H := hP
          have hD : va_D A (wk q cB cI tl lv lb ln tp ll id ms sc st) := hD
          refine lv_istore (lv' := [(4, .int (nI (((wdl lv i) + 1) / 2))), (0, .ref (q 0)), (1, .int (nI i0)), (2, .int (nI J)), (3, .int (nI (stc lv i0 (i + 1)))), (5, .int (nI i))]) hx hb dX1_levelOfStep_60 hl (by decide) rfl (fun ls hl => ?_)
          refine lv_iinc (v := (nI (i + 1))) (lv' := [(5, .int (nI (i + 1))), (4, .int (nI (((wdl lv i) + 1) / 2))), (0, .ref (q 0)), (1, .int (nI i0)), (2, .int (nI J)), (3, .int (nI (stc lv i0 (i + 1))))]) hx hb dX1_levelOfStep_62 hl (k := 5) rfl (kn_inc _ _ 1 rfl) (by decide) rfl (fun ls hl => ?_)
          refine lv_goto (tgt := 25) hx hb dX1_levelOfStep_65 (by decide) ?_
          exact ih hlt _ _ _ ⟨by first | exact los_bt hI_0 c_46 | exact los_bf hI_0 c_41, hP, hD, hS, (lv_sub hl [2, 3, 4, 5, 1, 0] rfl)⟩
        · have c_41 : (decide (xo (i0 / 2 ^ i) < (wdl lv i))) = true := bz_1 c_41
          have c_41 : hbt lv i0 i = true := c_41
          refine lv_iload_n hx hb dX1_levelOfStep_44 rfl (lv_at hl 3 rfl) ?_
          refine lv_iload_n hx hb dX1_levelOfStep_45 rfl (lv_at hl 2 rfl) ?_
          refine lv_icmp_ne (tgt := 52) hx hb dX1_levelOfStep_46 (by decide) (fun c_46 => ?_) (fun c_46 => ?_)
          · have c_46 : (stc lv i0 i) ≠ J := kn_ne c_46 (by omega) (by omega)
            refine lv_iinc (v := (nI (stc lv i0 (i + 1)))) (lv' := [(3, .int (nI (stc lv i0 (i + 1)))), (0, .ref (q 0)), (1, .int (nI i0)), (2, .int (nI J)), (4, .int (nI (wdl lv i))), (5, .int (nI i))]) hx hb dX1_levelOfStep_52 hl (k := 3) rfl (kn_inc _ _ 1 (stc_t c_41)) (by decide) rfl (fun ls hl => ?_)
            refine lv_iload hx hb dX1_levelOfStep_55 (lv_at hl 4 rfl) ?_
            refine kcs_i (As := [.int (nI (wdl lv i))]) (rest := []) ⟨hx, hb, hml, hown, hts⟩ (c_widthAbove l D A q cB cI (wk q cB cI tl lv lb ln tp ll id ms sc st) (wdl lv i) (by omega)) (cwS 1 hts gX1_levelOfStep_X1_widthAbove rfl rfl rfl (by decide +kernel) ⟨Nat.le_of_ble_eq_true rfl, Nat.le_of_ble_eq_true rfl⟩) hK hP hD hS hZ rfl hl.1 rfl (Nat.le_of_ble_eq_true rfl) ⟨Nat.zero_le _, Nat.zero_le _⟩ dX1_levelOfStep_57 (fun r_4 _ H locs hw hP hD hS => ?_)
            have hw : r_4 = (nI (((wdl lv i) + 1) / 2)) := hw
            subst hw
            have hP : va_P D vwCl (wk q cB cI tl lv lb ln tp ll id ms sc st) H := hP
            have hD : va_D A (wk q cB cI tl lv lb ln tp ll id ms sc st) := hD
            refine lv_istore (lv' := [(4, .int (nI (((wdl lv i) + 1) / 2))), (3, .int (nI (stc lv i0 (i + 1)))), (0, .ref (q 0)), (1, .int (nI i0)), (2, .int (nI J)), (5, .int (nI i))]) hx hb dX1_levelOfStep_60 hl (by decide) rfl (fun ls hl => ?_)
            refine lv_iinc (v := (nI (i + 1))) (lv' := [(5, .int (nI (i + 1))), (4, .int (nI (((wdl lv i) + 1) / 2))), (3, .int (nI (stc lv i0 (i + 1)))), (0, .ref (q 0)), (1, .int (nI i0)), (2, .int (nI J))]) hx hb dX1_levelOfStep_62 hl (k := 5) rfl (kn_inc _ _ 1 rfl) (by decide) rfl (fun ls hl => ?_)
            refine lv_goto (tgt := 25) hx hb dX1_levelOfStep_65 (by decide) ?_
            exact ih hlt _ _ _ ⟨by first | exact los_bt hI_0 c_46 | exact los_bf hI_0 c_41, hP, hD, hS, (lv_sub hl [3, 4, 5, 2, 1, 0] rfl)⟩
          · have c_46 : (stc lv i0 i) = J := kn_eq c_46 (by omega) (by omega)
            refine lv_iload hx hb dX1_levelOfStep_49 (lv_at hl 5 rfl) ?_
            exact kr_i (()) hx hb hr hlocks hK hP hD hS (los_y h1 hi0 hJ hlt c_41 c_46) dX1_levelOfStep_51
    · refine lv_iconst (v := ((-1 : Int32))) hx hb dX1_levelOfStep_12 (by decide) ?_
      exact kr_i (()) hx hb hr hlocks hK hP hD hS (by first | exact los_b c_9 | exact los_a (by omega) c_5) dX1_levelOfStep_13

set_option maxHeartbeats 4000000 in
set_option maxRecDepth 100000 in
theorem c_moveTapeTo (l : Launch) (D : va_G) (A : Nat → Prop) (q : Nat → Nat) (cB cI : ClassId) (tl lv lb ln : Nat) (tp : Nat → Int32) (ll : Nat → Nat) (id ms sc st : Nat → Int32) (i : Nat) (h1 : i < lv) (h2 : lv ≤ 100) (h3 : tl ≤ 150) (h4 : ll i ≤ lb + tl) : Kv (S := (Nat × (Nat → Int32) × (Nat → Int32) × (Nat → Int32))) l yX1_moveTapeTo wsX1_moveTapeTo { frames := 5, cells := 0, slots := 0, locals := 127 } D vwCl [(cB, .byte), (cI, .int)] A (zk q) [.ref (q 0), .int (nI i)] (wk q cB cI tl lv lb ln tp ll id ms sc st) (fun _ => True) (fun u => (wk q cB cI 0 lv (lb + tl - ll i) u.1 tp (va_up ll i tl) (rfa lv i (pn id i (lfh tp tl)) (rl lv)) u.2.1 u.2.2.1 u.2.2.2)) := by
  refine Met.ofW (cc := cX1_moveTapeTo) (maxL := 2) (ret := none) (by decide) rfl ?_
  intro p e s m args below meth c s₁ B hml hv
  obtain ⟨rfl, hP, hK, hD, hZ⟩ := hv
  have hx := B.exec
  have hb := B.bytes
  have hr := B.returns
  have hts := atoms_spec (ws := wsX1_moveTapeTo) B.pre
  have hown : s.vm.findClass RX1 = some m.cls := findClass_of_methodNamed B.named
  have hlocks := B.notSynchronized
  have hS : va_S A s.heap s.heap [] := va_S.rf
  have hin_1 : ∀ w ∈ u_ws RX1 TX1 7, w ∈ wsX1_moveTapeTo := by decide +kernel
  have lk_13 := hts (.fieldLink RX1 13 "RootDesk" "leafLengths" "[I") (by decide +kernel)
  have lk_27 := hts (.fieldLink RX1 27 "RootDesk" "tapeLength" "I") (by decide +kernel)
  have lk_34 := hts (.fieldLink RX1 34 "RootDesk" "leafBytes" "I") (by decide +kernel)
  have hl := lv_entry ([.ref (q 0), .int (nI i)]) (n := 2) (Nat.le_of_ble_eq_true rfl)
  rw [lg_entry_eq]
  generalize (lg_sl ([.ref (q 0), .int (nI i)]) ++ List.replicate (2 - (lg_sl ([.ref (q 0), .int (nI i)])).length) Slot.unset).toArray = ls at hl ⊢
  have hl : lv_has ls 2 [(0, .ref (q 0)), (1, .int (nI i))] := hl
  refine lv_aload_n hx hb dX1_moveTapeTo_0 rfl (lv_at hl 0 rfl) ?_
  refine lv_iload_n hx hb dX1_moveTapeTo_1 rfl (lv_at hl 1 rfl) ?_
  refine kc_v (As := [.int (nI i)]) (rest := []) ⟨hx, hb, hml, hown, hts⟩ (c_makeLeafId l D A q cB cI tl lv lb ln tp ll id ms sc st i (by omega) (by omega)) (cwV 1 hts gX1_moveTapeTo_X1_makeLeafId rfl rfl rfl (by decide +kernel) ⟨Nat.le_of_ble_eq_true rfl, Nat.le_of_ble_eq_true rfl⟩) (va_recv hK hP (ci := 1) (q0 := 0) rfl rfl) hK hP hD hS hZ rfl hl.1 rfl (Nat.le_of_ble_eq_true rfl) ⟨Nat.zero_le _, Nat.zero_le _⟩ dX1_moveTapeTo_2 (fun u_1 H locs _ hP hD hS => ?_)
  have hP : va_P D vwCl (wk q cB cI tl lv lb u_1.1 tp ll (pn id i (lfh tp tl)) u_1.2.1 u_1.2.2.1 u_1.2.2.2) H := hP
  have hD : va_D A (wk q cB cI tl lv lb u_1.1 tp ll (pn id i (lfh tp tl)) u_1.2.1 u_1.2.2.1 u_1.2.2.2) := hD
  refine lv_aload_n hx hb dX1_moveTapeTo_5 rfl (lv_at hl 0 rfl) ?_
  refine lv_dup hx hb dX1_moveTapeTo_6 rfl ?_
  refine va_get (D := D) (ci := 1) (v := .int (nI lb)) (C := RX1) (T := TX1) (N := 7) hx hb hts hin_1 hown hK hP 0 rfl rfl 4 (by decide) lk_34 (fun _ h9 => h9) rfl dX1_moveTapeTo_7 ?_
  refine lv_aload_n hx hb dX1_moveTapeTo_10 rfl (lv_at hl 0 rfl) ?_
  refine va_get (D := D) (ci := 1) (v := .int (nI tl)) (C := RX1) (T := TX1) (N := 7) hx hb hts hin_1 hown hK hP 0 rfl rfl 1 (by decide) lk_27 (fun _ h9 => h9) rfl dX1_moveTapeTo_11 ?_
  refine lv_aload_n hx hb dX1_moveTapeTo_14 rfl (lv_at hl 0 rfl) ?_
  refine va_get (D := D) (ci := 1) (v := .ref (q 2)) (C := RX1) (T := TX1) (N := 7) hx hb hts hin_1 hown hK hP 0 rfl rfl 2 (by decide) lk_13 (fun _ h9 => h9) rfl dX1_moveTapeTo_15 ?_
  refine lv_iload_n hx hb dX1_moveTapeTo_18 rfl (lv_at hl 1 rfl) ?_
  refine kb_iald hx hb hK hP 2 1 rfl rfl (i) (rfl) (by omega) (by decide) dX1_moveTapeTo_19 ?_
  refine lv_isub hx hb dX1_moveTapeTo_20 ?_
  refine lv_iadd hx hb dX1_moveTapeTo_21 ?_
  refine kp_i (y := (nI (lb + tl - ll i))) (kn_asub h4) ?_
  refine va_put (D := D) (ci := 1) (v := .int (nI (lb + tl - ll i))) (ty := .int) (C := RX1) (T := TX1) (N := 7) hx hb hts hin_1 tyX1 tyX1_ok nmX1 hown hK hP hD hS 0 rfl rfl 4 (by decide) lk_34 (fun _ h9 => h9) rfl (by decide +kernel) rfl rfl (Nat.le_of_ble_eq_true rfl) dX1_moveTapeTo_22 (fun H locs hP hD hS => ?_)
  have hP : va_P D vwCl (wk q cB cI tl lv (lb + tl - ll i) u_1.1 tp ll (pn id i (lfh tp tl)) u_1.2.1 u_1.2.2.1 u_1.2.2.2) H := hP
  have hD : va_D A (wk q cB cI tl lv (lb + tl - ll i) u_1.1 tp ll (pn id i (lfh tp tl)) u_1.2.1 u_1.2.2.1 u_1.2.2.2) := hD
  refine lv_aload_n hx hb dX1_moveTapeTo_25 rfl (lv_at hl 0 rfl) ?_
  refine va_get (D := D) (ci := 1) (v := .ref (q 2)) (C := RX1) (T := TX1) (N := 7) hx hb hts hin_1 hown hK hP 0 rfl rfl 2 (by decide) lk_13 (fun _ h9 => h9) rfl dX1_moveTapeTo_26 ?_
  refine lv_iload_n hx hb dX1_moveTapeTo_29 rfl (lv_at hl 1 rfl) ?_
  refine lv_aload_n hx hb dX1_moveTapeTo_30 rfl (lv_at hl 0 rfl) ?_
  refine va_get (D := D) (ci := 1) (v := .int (nI tl)) (C := RX1) (T := TX1) (N := 7) hx hb hts hin_1 hown hK hP 0 rfl rfl 1 (by decide) lk_27 (fun _ h9 => h9) rfl dX1_moveTapeTo_31 ?_
  refine kb_iast hx hb hK hP hD hS 2 1 rfl rfl (i) (rfl) (by omega) (by decide) dX1_moveTapeTo_34 (fun H locs hP hD hS => ?_)
  rw [kn_upd] at hP hD
  have hP : va_P D vwCl (wk q cB cI tl lv (lb + tl - ll i) u_1.1 tp (va_up ll (i) (tl)) (pn id i (lfh tp tl)) u_1.2.1 u_1.2.2.1 u_1.2.2.2) H := hP
  have hD : va_D A (wk q cB cI tl lv (lb + tl - ll i) u_1.1 tp (va_up ll (i) (tl)) (pn id i (lfh tp tl)) u_1.2.1 u_1.2.2.1 u_1.2.2.2) := hD
  refine lv_aload_n hx hb dX1_moveTapeTo_35 rfl (lv_at hl 0 rfl) ?_
  refine lv_iconst (v := (nI (0))) hx hb dX1_moveTapeTo_36 (by decide) ?_
  refine va_put (D := D) (ci := 1) (v := .int (nI 0)) (ty := .int) (C := RX1) (T := TX1) (N := 7) hx hb hts hin_1 tyX1 tyX1_ok nmX1 hown hK hP hD hS 0 rfl rfl 1 (by decide) lk_27 (fun _ h9 => h9) rfl (by decide +kernel) rfl rfl (Nat.le_of_ble_eq_true rfl) dX1_moveTapeTo_37 (fun H locs hP hD hS => ?_)
  have hP : va_P D vwCl (wk q cB cI 0 lv (lb + tl - ll i) u_1.1 tp (va_up ll (i) (tl)) (pn id i (lfh tp tl)) u_1.2.1 u_1.2.2.1 u_1.2.2.2) H := hP
  have hD : va_D A (wk q cB cI 0 lv (lb + tl - ll i) u_1.1 tp (va_up ll (i) (tl)) (pn id i (lfh tp tl)) u_1.2.1 u_1.2.2.1 u_1.2.2.2) := hD
  refine lv_aload_n hx hb dX1_moveTapeTo_40 rfl (lv_at hl 0 rfl) ?_
  refine lv_iload_n hx hb dX1_moveTapeTo_41 rfl (lv_at hl 1 rfl) ?_
  refine kc_v (As := [.int (nI i)]) (rest := []) ⟨hx, hb, hml, hown, hts⟩ (c_refreshAbove l D A q cB cI 0 lv (lb + tl - ll i) u_1.1 tp (va_up ll (i) (tl)) (pn id i (lfh tp tl)) u_1.2.1 u_1.2.2.1 u_1.2.2.2 i (by omega) (by omega)) (cwV 1 hts gX1_moveTapeTo_X1_refreshAbove rfl rfl rfl (by decide +kernel) ⟨Nat.le_of_ble_eq_true rfl, Nat.le_of_ble_eq_true rfl⟩) (va_recv hK hP (ci := 1) (q0 := 0) rfl rfl) hK hP hD hS hZ rfl hl.1 rfl (Nat.le_of_ble_eq_true rfl) ⟨Nat.zero_le _, Nat.zero_le _⟩ dX1_moveTapeTo_42 (fun u_2 H locs _ hP hD hS => ?_)
  have hP : va_P D vwCl (wk q cB cI 0 lv (lb + tl - ll i) u_2.1 tp (va_up ll (i) (tl)) (rfa lv i (pn id i (lfh tp tl)) (rl lv)) u_2.2.1 u_2.2.2.1 u_2.2.2.2) H := hP
  have hD : va_D A (wk q cB cI 0 lv (lb + tl - ll i) u_2.1 tp (va_up ll (i) (tl)) (rfa lv i (pn id i (lfh tp tl)) (rl lv)) u_2.2.1 u_2.2.2.1 u_2.2.2.2) := hD
  exact kr_v (u_2) hx hb hr hlocks hK hP hD hS (trivial) dX1_moveTapeTo_45
