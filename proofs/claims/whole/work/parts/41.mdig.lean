set_option maxHeartbeats 4000000 in
set_option maxRecDepth 100000 in
theorem m_digest (l : Launch) (D : va_G) (A : Nat → Prop) (r : Nat → Nat) (cI cJ : ClassId) (hz tl lv mn vs cb : Nat) (hs su sc ro be tp bs : Nat → Int32) (sz : Nat → Nat) (lw mi : Nat → Int64) (ms : Nat → Int32) (h1 : hz ≤ 183) (h2 : ∀ j, j < hz → hs j = ms j &&& 255) (h3 : ∀ j, j < 64 → ro j = rwv j) (h4 : ∀ j, j < 8 → be j = fsv j) : Kv (S := (Nat × (Nat → Int32) × (Nat → Int32) × (Nat → Int32))) l yX2_digest wsX2_digest { frames := 2, cells := 0, slots := 0, locals := 53 } D vwCl [(cI, .int), (cJ, .long)] A [] [.ref (r 0)] (wm r cI cJ hz tl lv mn vs cb hs su sc ro be tp bs sz lw mi) (fun u => ∀ j, j < 8 → u.2.2.1 j = hm ms hz j) (fun u => (wm r cI cJ u.1 tl lv mn vs cb u.2.1 u.2.2.1 u.2.2.2 ro be tp bs sz lw mi)) := by
  refine Met.ofW (cc := cX2_digest) (maxL := 3) (ret := none) (by decide) rfl ?_
  intro p e s m args below meth c s₁ B hml hv
  obtain ⟨rfl, hP, hK, hD, hZ⟩ := hv
  have hx := B.exec
  have hb := B.bytes
  have hr := B.returns
  have hts := atoms_spec (ws := wsX2_digest) B.pre
  have hown : s.vm.findClass RX2 = some m.cls := findClass_of_methodNamed B.named
  have hlocks := B.notSynchronized
  have hS : va_S A s.heap s.heap [] := va_S.rf
  have hin_2 : ∀ w ∈ u_ws RX2 TX2 16, w ∈ wsX2_digest := fun w h => List.mem_cons_of_mem _ (List.mem_append_right _ h)
  have lk_1 := hts (.fieldLink RX2 1 "RootDeskModel" "begins" "[I") (inM (List.mem_of_getElem? (i := 24) rfl))
  have lk_25 := hts (.fieldLink RX2 25 "RootDeskModel" "hashSize" "I") (inM (List.mem_of_getElem? (i := 20) rfl))
  have lk_33 := hts (.fieldLink RX2 33 "RootDeskModel" "sums" "[I") (inM (List.mem_of_getElem? (i := 21) rfl))
  have hl := lv_entry ([.ref (r 0)]) (n := 3) (Nat.le_of_ble_eq_true rfl)
  rw [lg_entry_eq]
  generalize (lg_sl ([.ref (r 0)]) ++ List.replicate (3 - (lg_sl ([.ref (r 0)])).length) Slot.unset).toArray = ls at hl ⊢
  have hl : lv_has ls 3 [(0, .ref (r 0))] := hl
  have hpl : pl hz = pz hz + 9 := rfl
  have hfit := pl_fit h1
  have hmod := pl_mod hz
  refine lv_aload_n hx hb dX2_digest_0 rfl (lv_at hl 0 rfl) ?_
  refine va_get (D := D) (ci := 2) (v := .int (nI hz)) (C := RX2) (T := TX2) (N := 16) hx hb hts hin_2 hown hK hP 0 rfl rfl 1 (by decide) lk_25 (fun _ h9 => h9) rfl dX2_digest_1 ?_
  refine lv_istore_n (lv' := [(1, .int (nI hz)), (0, .ref (r 0))]) hx hb dX2_digest_4 rfl hl (by decide) rfl (fun ls hl => ?_)
  refine lv_aload_n hx hb dX2_digest_5 rfl (lv_at hl 1 rfl) ?_
  refine lv_sipush (v := ((128 : Int32))) hx hb dX2_digest_6 (by decide) ?_
  refine kc_v (As := [.int ((128 : Int32))]) (rest := []) ⟨hx, hb, hml, hown, hts⟩ (m_hashByte l D A r cI cJ hz tl lv mn vs cb hs su sc ro be tp bs sz lw mi (((128 : Int32))) (by omega)) (cwV 1 hts (gMV (List.mem_of_getElem? (i := 45) rfl) (List.mem_of_getElem? (i := 46) rfl) (List.mem_of_getElem? (i := 112) rfl) (List.mem_of_getElem? (i := 0) rfl) (List.mem_of_getElem? (i := 47) rfl)) rfl rfl rfl (by decide +kernel) ⟨Nat.le_of_ble_eq_true rfl, Nat.le_of_ble_eq_true rfl⟩) (va_recv hK hP (ci := 2) (q0 := 0) rfl rfl) hK hP hD hS hZ rfl hl.1 rfl (Nat.le_of_ble_eq_true rfl) ⟨Nat.zero_le _, Nat.zero_le _⟩ dX2_digest_9 (fun _ H locs _ hP hD hS => ?_)
  have hP : va_P D vwCl (wm r cI cJ (hz + 1) tl lv mn vs cb (upd hs hz (((128 : Int32)) &&& 255)) su sc ro be tp bs sz lw mi) H := hP
  have hD : va_D A (wm r cI cJ (hz + 1) tl lv mn vs cb (upd hs hz (((128 : Int32)) &&& 255)) su sc ro be tp bs sz lw mi) := hD
  rw [cat_1 (x := (128 : Int32) &&& 255) (f := mpd hz) (mpd_0 hz)] at hP hD
  have hP : va_P D vwCl (wm r cI cJ (hz + 1) tl lv mn vs cb (cat hs hz (mpd hz) 1) su sc ro be tp bs sz lw mi) H := hP
  have hD : va_D A (wm r cI cJ (hz + 1) tl lv mn vs cb (cat hs hz (mpd hz) 1) su sc ro be tp bs sz lw mi) := hD
  refine kp_lp (hd := 12) (nn := pz hz) (fun (i : Nat) (H : Heap) (locs : List Loc) (ls : Array Slot) => va_P D vwCl (wm r cI cJ (hz + 1 + i) tl lv mn vs cb (cat hs hz (mpd hz) (1 + i)) su sc ro be tp bs sz lw mi) H ∧ va_D A (wm r cI cJ (hz + 1 + i) tl lv mn vs cb (cat hs hz (mpd hz) (1 + i)) su sc ro be tp bs sz lw mi) ∧ va_S A s.heap H locs ∧ lv_has ls 3 [(0, .ref (r 0)), (1, .int (nI hz))]) ?_ 0 (by omega) _ _ _ ⟨hP, hD, hS, (lv_sub hl [1, 0] rfl)⟩
  intro i hiN H locs ls hI ih
  obtain ⟨hP, hD, hS, hl⟩ := hI
  refine lv_aload_n hx hb dX2_digest_12 rfl (lv_at hl 0 rfl) ?_
  refine va_get (D := D) (ci := 2) (v := .int (nI (hz + 1 + i))) (C := RX2) (T := TX2) (N := 16) hx hb hts hin_2 hown hK hP 0 rfl rfl 1 (by decide) lk_25 (fun _ h9 => h9) rfl dX2_digest_13 ?_
  refine lv_bipush (v := (nI (64))) hx hb dX2_digest_16 (by decide) ?_
  refine lv_irem hx hb dX2_digest_18 (by decide) ?_
  refine kp_i (y := (nI ((hz + 1 + i) % 64))) (pk_rem (by omega) (by decide) (by decide)) ?_
  refine lv_bipush (v := (nI (56))) hx hb dX2_digest_19 (by decide) ?_
  refine lv_icmp_eq (tgt := 32) hx hb dX2_digest_21 (by decide) (fun c_21 => ?_) (fun c_21 => ?_)
  · have c_21 : ((hz + 1 + i) % 64) = 56 := kn_eq c_21 (by omega) (by omega)
    have e9 : pz hz = i := (pz_at hiN c_21).symm
    subst e9
    refine lv_iconst (v := (nI (0))) hx hb dX2_digest_32 (by decide) ?_
    refine lv_istore_n (lv' := [(2, .int (nI 0)), (0, .ref (r 0)), (1, .int (nI hz))]) hx hb dX2_digest_33 rfl hl (by decide) rfl (fun ls hl => ?_)
    refine kp_lp (hd := 34) (nn := 4) (fun (i : Nat) (H : Heap) (locs : List Loc) (ls : Array Slot) => va_P D vwCl (wm r cI cJ (hz + 1 + pz hz + i) tl lv mn vs cb (cat hs hz (mpd hz) (1 + pz hz + i)) su sc ro be tp bs sz lw mi) H ∧ va_D A (wm r cI cJ (hz + 1 + pz hz + i) tl lv mn vs cb (cat hs hz (mpd hz) (1 + pz hz + i)) su sc ro be tp bs sz lw mi) ∧ va_S A s.heap H locs ∧ lv_has ls 3 [(0, .ref (r 0)), (1, .int (nI hz)), (2, .int (nI i))]) ?_ 0 (by omega) _ _ _ ⟨hP, hD, hS, (lv_sub hl [1, 2, 0] rfl)⟩
    intro i hiN H locs ls hI ih
    obtain ⟨hP, hD, hS, hl⟩ := hI
    refine lv_iload_n hx hb dX2_digest_34 rfl (lv_at hl 2 rfl) ?_
    refine lv_iconst (v := (nI (4))) hx hb dX2_digest_35 (by decide) ?_
    refine lv_icmp_ge (tgt := 50) hx hb dX2_digest_36 (by decide) (fun c_36 => ?_) (fun c_36 => ?_)
    · have c_36 : 4 ≤ i := kn_le c_36 (by omega) (by omega)
      have e9 : 4 = i := by omega
      subst e9
      refine lv_iconst (v := (sg 0)) hx hb dX2_digest_50 (by decide) ?_
      refine lv_istore_n (lv' := [(2, .int (sg 0)), (0, .ref (r 0)), (1, .int (nI hz))]) hx hb dX2_digest_51 rfl hl (by decide) rfl (fun ls hl => ?_)
      refine kp_lp (hd := 52) (nn := 4) (fun (i : Nat) (H : Heap) (locs : List Loc) (ls : Array Slot) => va_P D vwCl (wm r cI cJ (hz + 1 + pz hz + 4 + i) tl lv mn vs cb (cat hs hz (mpd hz) (1 + pz hz + 4 + i)) su sc ro be tp bs sz lw mi) H ∧ va_D A (wm r cI cJ (hz + 1 + pz hz + 4 + i) tl lv mn vs cb (cat hs hz (mpd hz) (1 + pz hz + 4 + i)) su sc ro be tp bs sz lw mi) ∧ va_S A s.heap H locs ∧ lv_has ls 3 [(0, .ref (r 0)), (1, .int (nI hz)), (2, .int (sg i))]) ?_ 0 (by omega) _ _ _ ⟨hP, hD, hS, (lv_sub hl [1, 2, 0] rfl)⟩
      intro i hiN H locs ls hI ih
      obtain ⟨hP, hD, hS, hl⟩ := hI
      refine lv_iload_n hx hb dX2_digest_52 rfl (lv_at hl 2 rfl) ?_
      refine lv_if_lt (tgt := 75) hx hb dX2_digest_53 (by decide) (fun c_53 => ?_) (fun c_53 => ?_)
      · have e9 : 4 = i := (sg_lt hiN c_53).symm
        subst e9
        rw [show hz + 1 + pz hz + 4 + 4 = hz + pl hz by unfold pl; omega, show 1 + pz hz + 4 + 4 = pl hz by unfold pl; omega] at hP hD
        have hmg := msg_rel h2
        refine lv_iconst (v := (nI (0))) hx hb dX2_digest_75 (by decide) ?_
        refine lv_istore_n (lv' := [(2, .int (nI 0)), (0, .ref (r 0)), (1, .int (nI hz))]) hx hb dX2_digest_76 rfl hl (by decide) rfl (fun ls hl => ?_)
        refine kp_lp (hd := 77) (nn := 8) (fun (i : Nat) (H : Heap) (locs : List Loc) (ls : Array Slot) => ∃ (su1 : Nat → Int32), (∀ j, j < i → su1 j = fsv j) ∧ va_P D vwCl (wm r cI cJ (hz + pl hz) tl lv mn vs cb (cat hs hz (mpd hz) (pl hz)) su1 sc ro be tp bs sz lw mi) H ∧ va_D A (wm r cI cJ (hz + pl hz) tl lv mn vs cb (cat hs hz (mpd hz) (pl hz)) su1 sc ro be tp bs sz lw mi) ∧ va_S A s.heap H locs ∧ lv_has ls 3 [(0, .ref (r 0)), (2, .int (nI i))]) ?_ 0 (by omega) _ _ _ ⟨su, fun j hj => absurd hj (Nat.not_lt_zero j), hP, hD, hS, (lv_sub hl [1, 0] rfl)⟩
        intro i hiN H locs ls hI ih
        obtain ⟨su1, hI_0, hP, hD, hS, hl⟩ := hI
        refine lv_iload_n hx hb dX2_digest_77 rfl (lv_at hl 1 rfl) ?_
        refine lv_bipush (v := (nI (8))) hx hb dX2_digest_78 (by decide) ?_
        refine lv_icmp_ge (tgt := 101) hx hb dX2_digest_80 (by decide) (fun c_80 => ?_) (fun c_80 => ?_)
        · have c_80 : 8 ≤ i := kn_le c_80 (by omega) (by omega)
          have e9 : 8 = i := by omega
          subst e9
          refine lv_iconst (v := (nI (0))) hx hb dX2_digest_101 (by decide) ?_
          refine lv_istore_n (lv' := [(2, .int (nI 0)), (0, .ref (r 0))]) hx hb dX2_digest_102 rfl hl (by decide) rfl (fun ls hl => ?_)
          refine kp_lp (hd := 103) (nn := (hz + pl hz) / 64) (fun (i : Nat) (H : Heap) (locs : List Loc) (ls : Array Slot) => ∃ (sc1 : Nat → Int32), ∃ (su1 : Nat → Int32), (∀ j, j < 8 → su1 j = shs (cat ms hz (pd hz) (pl hz)) i j) ∧ va_P D vwCl (wm r cI cJ (hz + pl hz) tl lv mn vs cb (cat hs hz (mpd hz) (pl hz)) su1 sc1 ro be tp bs sz lw mi) H ∧ va_D A (wm r cI cJ (hz + pl hz) tl lv mn vs cb (cat hs hz (mpd hz) (pl hz)) su1 sc1 ro be tp bs sz lw mi) ∧ va_S A s.heap H locs ∧ lv_has ls 3 [(0, .ref (r 0)), (2, .int (nI (64 * i)))]) ?_ 0 (by omega) _ _ _ ⟨sc, su1, hI_0, hP, hD, hS, (lv_sub hl [1, 0] rfl)⟩
          intro i hiN H locs ls hI ih
          obtain ⟨sc1, su1, hI_0, hP, hD, hS, hl⟩ := hI
          refine lv_iload_n hx hb dX2_digest_103 rfl (lv_at hl 1 rfl) ?_
          refine lv_aload_n hx hb dX2_digest_104 rfl (lv_at hl 0 rfl) ?_
          refine va_get (D := D) (ci := 2) (v := .int (nI (hz + pl hz))) (C := RX2) (T := TX2) (N := 16) hx hb hts hin_2 hown hK hP 0 rfl rfl 1 (by decide) lk_25 (fun _ h9 => h9) rfl dX2_digest_105 ?_
          refine lv_icmp_ge (tgt := 122) hx hb dX2_digest_108 (by decide) (fun c_108 => ?_) (fun c_108 => ?_)
          · have c_108 : (hz + pl hz) ≤ (64 * i) := kn_le c_108 (by omega) (by omega)
            have e9 : (hz + pl hz) / 64 = i := by omega
            subst e9
            exact kr_v ((_, _, su1, sc1)) hx hb hr hlocks hK hP hD hS (hI_0) dX2_digest_122
          · have c_108 : (64 * i) < (hz + pl hz) := kn_nle c_108 (by omega) (by omega)
            have hlt : i < (hz + pl hz) / 64 := by omega
            have h64 : 64 * i + 64 ≤ hz + pl hz := by omega
            refine lv_aload_n hx hb dX2_digest_111 rfl (lv_at hl 0 rfl) ?_
            refine lv_iload_n hx hb dX2_digest_112 rfl (lv_at hl 1 rfl) ?_
            refine kc_v (As := [.int (nI (64 * i))]) (rest := []) ⟨hx, hb, hml, hown, hts⟩ (m_compress l D A r cI cJ (hz + pl hz) tl lv mn vs cb (cat hs hz (mpd hz) (pl hz)) su1 sc1 ro be tp bs sz lw mi (64 * i) (cat ms hz (pd hz) (pl hz)) (by omega) (fun j _ hj => hmg j (by omega)) h3) (cwV 1 hts (gMV (List.mem_of_getElem? (i := 51) rfl) (List.mem_of_getElem? (i := 52) rfl) (List.mem_of_getElem? (i := 114) rfl) (List.mem_of_getElem? (i := 0) rfl) (List.mem_of_getElem? (i := 53) rfl)) rfl rfl rfl (by decide +kernel) ⟨Nat.le_of_ble_eq_true rfl, Nat.le_of_ble_eq_true rfl⟩) (va_recv hK hP (ci := 2) (q0 := 0) rfl rfl) hK hP hD hS hZ rfl hl.1 rfl (Nat.le_of_ble_eq_true rfl) ⟨Nat.zero_le _, Nat.zero_le _⟩ dX2_digest_113 (fun u_2 H locs hw_u_2 hP hD hS => ?_)
            have hP : va_P D vwCl (wm r cI cJ (hz + pl hz) tl lv mn vs cb (cat hs hz (mpd hz) (pl hz)) u_2.1 u_2.2 ro be tp bs sz lw mi) H := hP
            have hD : va_D A (wm r cI cJ (hz + pl hz) tl lv mn vs cb (cat hs hz (mpd hz) (pl hz)) u_2.1 u_2.2 ro be tp bs sz lw mi) := hD
            refine lv_iinc (v := (nI (64 * (i + 1)))) (lv' := [(2, .int (nI (64 * (i + 1)))), (0, .ref (r 0))]) hx hb dX2_digest_116 hl (k := 1) rfl (kn_inc _ _ 64 (by omega)) (by decide) rfl (fun ls hl => ?_)
            refine lv_goto (tgt := 103) hx hb dX2_digest_119 (by decide) ?_
            exact ih hlt _ _ _ ⟨_, _, shs_back2 hI_0 hw_u_2, hP, hD, hS, (lv_sub hl [1, 0] rfl)⟩
        · have c_80 : i < 8 := kn_nle c_80 (by omega) (by omega)
          have hlt : i < 8 := c_80
          refine lv_aload_n hx hb dX2_digest_83 rfl (lv_at hl 0 rfl) ?_
          refine va_get (D := D) (ci := 2) (v := .ref (r 2)) (C := RX2) (T := TX2) (N := 16) hx hb hts hin_2 hown hK hP 0 rfl rfl 2 (by decide) lk_33 (fun _ h9 => h9) rfl dX2_digest_84 ?_
          refine lv_iload_n hx hb dX2_digest_87 rfl (lv_at hl 1 rfl) ?_
          refine lv_aload_n hx hb dX2_digest_88 rfl (lv_at hl 0 rfl) ?_
          refine va_get (D := D) (ci := 2) (v := .ref (r 5)) (C := RX2) (T := TX2) (N := 16) hx hb hts hin_2 hown hK hP 0 rfl rfl 5 (by decide) lk_1 (fun _ h9 => h9) rfl dX2_digest_89 ?_
          refine lv_iload_n hx hb dX2_digest_92 rfl (lv_at hl 1 rfl) ?_
          refine kb_iald hx hb hK hP 5 0 rfl rfl (i) (rfl) (by omega) (by decide) dX2_digest_93 ?_
          refine kb_iast hx hb hK hP hD hS 2 0 rfl rfl (i) (rfl) (by omega) (by decide) dX2_digest_94 (fun H locs hP hD hS => ?_)
          have hP : va_P D vwCl (wm r cI cJ (hz + pl hz) tl lv mn vs cb (cat hs hz (mpd hz) (pl hz)) (upd su1 (i) ((be (i)))) sc ro be tp bs sz lw mi) H := hP
          have hD : va_D A (wm r cI cJ (hz + pl hz) tl lv mn vs cb (cat hs hz (mpd hz) (pl hz)) (upd su1 (i) ((be (i)))) sc ro be tp bs sz lw mi) := hD
          refine lv_iinc (v := (nI (i + 1))) (lv' := [(2, .int (nI (i + 1))), (0, .ref (r 0))]) hx hb dX2_digest_95 hl (k := 1) rfl (kn_inc _ _ 1 rfl) (by decide) rfl (fun ls hl => ?_)
          refine lv_goto (tgt := 77) hx hb dX2_digest_98 (by decide) ?_
          exact ih hlt _ _ _ ⟨_, upd_s hI_0 (h4 _ hlt), hP, hD, hS, (lv_sub hl [1, 0] rfl)⟩
      · have hlt : i < 4 := sg_nlt hiN c_53
        have hl : lv_has ls 3 [(0, .ref (r 0)), (1, .int (nI hz)), (2, .int (nI (3 - i)))] := by rw [← sg_n hlt]; exact hl
        refine lv_aload_n hx hb dX2_digest_56 rfl (lv_at hl 0 rfl) ?_
        refine lv_bipush (v := (nI (8))) hx hb dX2_digest_57 (by decide) ?_
        refine lv_iload_n hx hb dX2_digest_59 rfl (lv_at hl 1 rfl) ?_
        refine lv_imul hx hb dX2_digest_60 ?_
        refine kp_i (pk_mul _ _) ?_
        refine lv_bipush (v := (nI (8))) hx hb dX2_digest_61 (by decide) ?_
        refine lv_iload_n hx hb dX2_digest_63 rfl (lv_at hl 2 rfl) ?_
        refine lv_imul hx hb dX2_digest_64 ?_
        refine kp_i (pk_mul _ _) ?_
        refine lv_iushr hx hb dX2_digest_65 rfl ?_
        refine kc_v (As := [.int ((((nI (8 * hz))).toUInt32 >>> (((nI (8 * (3 - i)))).toUInt32 &&& Int32.toUInt32 31)).toInt32)]) (rest := []) ⟨hx, hb, hml, hown, hts⟩ (m_hashByte l D A r cI cJ (hz + 1 + pz hz + 4 + i) tl lv mn vs cb (cat hs hz (mpd hz) (1 + pz hz + 4 + i)) su sc ro be tp bs sz lw mi (((((nI (8 * hz))).toUInt32 >>> (((nI (8 * (3 - i)))).toUInt32 &&& Int32.toUInt32 31)).toInt32)) (by omega)) (cwV 1 hts (gMV (List.mem_of_getElem? (i := 45) rfl) (List.mem_of_getElem? (i := 46) rfl) (List.mem_of_getElem? (i := 112) rfl) (List.mem_of_getElem? (i := 0) rfl) (List.mem_of_getElem? (i := 47) rfl)) rfl rfl rfl (by decide +kernel) ⟨Nat.le_of_ble_eq_true rfl, Nat.le_of_ble_eq_true rfl⟩) (va_recv hK hP (ci := 2) (q0 := 0) rfl rfl) hK hP hD hS hZ rfl hl.1 rfl (Nat.le_of_ble_eq_true rfl) ⟨Nat.zero_le _, Nat.zero_le _⟩ dX2_digest_66 (fun _ H locs _ hP hD hS => ?_)
        have hP : va_P D vwCl (wm r cI cJ ((hz + 1 + pz hz + 4 + i) + 1) tl lv mn vs cb (upd (cat hs hz (mpd hz) (1 + pz hz + 4 + i)) (hz + 1 + pz hz + 4 + i) (((((nI (8 * hz))).toUInt32 >>> (((nI (8 * (3 - i)))).toUInt32 &&& Int32.toUInt32 31)).toInt32) &&& 255)) su sc ro be tp bs sz lw mi) H := hP
        have hD : va_D A (wm r cI cJ ((hz + 1 + pz hz + 4 + i) + 1) tl lv mn vs cb (upd (cat hs hz (mpd hz) (1 + pz hz + 4 + i)) (hz + 1 + pz hz + 4 + i) (((((nI (8 * hz))).toUInt32 >>> (((nI (8 * (3 - i)))).toUInt32 &&& Int32.toUInt32 31)).toInt32) &&& 255)) su sc ro be tp bs sz lw mi) := hD
        rw [cat_s2 (m := hz + 1 + pz hz + 4 + i) (by omega) (mpd_l (by omega) hlt)] at hP hD
        have hP : va_P D vwCl (wm r cI cJ ((hz + 1 + pz hz + 4 + i) + 1) tl lv mn vs cb (cat hs hz (mpd hz) (1 + pz hz + 4 + i + 1)) su sc ro be tp bs sz lw mi) H := hP
        have hD : va_D A (wm r cI cJ ((hz + 1 + pz hz + 4 + i) + 1) tl lv mn vs cb (cat hs hz (mpd hz) (1 + pz hz + 4 + i + 1)) su sc ro be tp bs sz lw mi) := hD
        refine lv_iinc (v := (sg (i + 1))) (lv' := [(2, .int (sg (i + 1))), (0, .ref (r 0)), (1, .int (nI hz))]) hx hb dX2_digest_69 hl (k := 2) rfl (sg_s hlt) (by decide) rfl (fun ls hl => ?_)
        refine lv_goto (tgt := 52) hx hb dX2_digest_72 (by decide) ?_
        exact ih hlt _ _ _ ⟨hP, hD, hS, (lv_sub hl [1, 2, 0] rfl)⟩
    · have c_36 : i < 4 := kn_nle c_36 (by omega) (by omega)
      have hlt : i < 4 := c_36
      refine lv_aload_n hx hb dX2_digest_39 rfl (lv_at hl 0 rfl) ?_
      refine lv_iconst (v := ((0 : Int32))) hx hb dX2_digest_40 (by decide) ?_
      refine kc_v (As := [.int ((0 : Int32))]) (rest := []) ⟨hx, hb, hml, hown, hts⟩ (m_hashByte l D A r cI cJ (hz + 1 + pz hz + i) tl lv mn vs cb (cat hs hz (mpd hz) (1 + pz hz + i)) su sc ro be tp bs sz lw mi (((0 : Int32))) (by omega)) (cwV 1 hts (gMV (List.mem_of_getElem? (i := 45) rfl) (List.mem_of_getElem? (i := 46) rfl) (List.mem_of_getElem? (i := 112) rfl) (List.mem_of_getElem? (i := 0) rfl) (List.mem_of_getElem? (i := 47) rfl)) rfl rfl rfl (by decide +kernel) ⟨Nat.le_of_ble_eq_true rfl, Nat.le_of_ble_eq_true rfl⟩) (va_recv hK hP (ci := 2) (q0 := 0) rfl rfl) hK hP hD hS hZ rfl hl.1 rfl (Nat.le_of_ble_eq_true rfl) ⟨Nat.zero_le _, Nat.zero_le _⟩ dX2_digest_41 (fun _ H locs _ hP hD hS => ?_)
      have hP : va_P D vwCl (wm r cI cJ ((hz + 1 + pz hz + i) + 1) tl lv mn vs cb (upd (cat hs hz (mpd hz) (1 + pz hz + i)) (hz + 1 + pz hz + i) (((0 : Int32)) &&& 255)) su sc ro be tp bs sz lw mi) H := hP
      have hD : va_D A (wm r cI cJ ((hz + 1 + pz hz + i) + 1) tl lv mn vs cb (upd (cat hs hz (mpd hz) (1 + pz hz + i)) (hz + 1 + pz hz + i) (((0 : Int32)) &&& 255)) su sc ro be tp bs sz lw mi) := hD
      rw [cat_s2 (m := hz + 1 + pz hz + i) (by omega) (mpd_h (by omega) hlt)] at hP hD
      have hP : va_P D vwCl (wm r cI cJ ((hz + 1 + pz hz + i) + 1) tl lv mn vs cb (cat hs hz (mpd hz) (1 + pz hz + i + 1)) su sc ro be tp bs sz lw mi) H := hP
      have hD : va_D A (wm r cI cJ ((hz + 1 + pz hz + i) + 1) tl lv mn vs cb (cat hs hz (mpd hz) (1 + pz hz + i + 1)) su sc ro be tp bs sz lw mi) := hD
      refine lv_iinc (v := (nI (i + 1))) (lv' := [(2, .int (nI (i + 1))), (0, .ref (r 0)), (1, .int (nI hz))]) hx hb dX2_digest_44 hl (k := 2) rfl (kn_inc _ _ 1 rfl) (by decide) rfl (fun ls hl => ?_)
      refine lv_goto (tgt := 34) hx hb dX2_digest_47 (by decide) ?_
      exact ih hlt _ _ _ ⟨hP, hD, hS, (lv_sub hl [1, 2, 0] rfl)⟩
  · have c_21 : ((hz + 1 + i) % 64) ≠ 56 := kn_ne c_21 (by omega) (by omega)
    have hlt : i < pz hz := pz_nat hiN c_21
    refine lv_aload_n hx hb dX2_digest_24 rfl (lv_at hl 0 rfl) ?_
    refine lv_iconst (v := ((0 : Int32))) hx hb dX2_digest_25 (by decide) ?_
    refine kc_v (As := [.int ((0 : Int32))]) (rest := []) ⟨hx, hb, hml, hown, hts⟩ (m_hashByte l D A r cI cJ (hz + 1 + i) tl lv mn vs cb (cat hs hz (mpd hz) (1 + i)) su sc ro be tp bs sz lw mi (((0 : Int32))) (by omega)) (cwV 1 hts (gMV (List.mem_of_getElem? (i := 45) rfl) (List.mem_of_getElem? (i := 46) rfl) (List.mem_of_getElem? (i := 112) rfl) (List.mem_of_getElem? (i := 0) rfl) (List.mem_of_getElem? (i := 47) rfl)) rfl rfl rfl (by decide +kernel) ⟨Nat.le_of_ble_eq_true rfl, Nat.le_of_ble_eq_true rfl⟩) (va_recv hK hP (ci := 2) (q0 := 0) rfl rfl) hK hP hD hS hZ rfl hl.1 rfl (Nat.le_of_ble_eq_true rfl) ⟨Nat.zero_le _, Nat.zero_le _⟩ dX2_digest_26 (fun _ H locs _ hP hD hS => ?_)
    have hP : va_P D vwCl (wm r cI cJ ((hz + 1 + i) + 1) tl lv mn vs cb (upd (cat hs hz (mpd hz) (1 + i)) (hz + 1 + i) (((0 : Int32)) &&& 255)) su sc ro be tp bs sz lw mi) H := hP
    have hD : va_D A (wm r cI cJ ((hz + 1 + i) + 1) tl lv mn vs cb (upd (cat hs hz (mpd hz) (1 + i)) (hz + 1 + i) (((0 : Int32)) &&& 255)) su sc ro be tp bs sz lw mi) := hD
    rw [cat_s2 (m := hz + 1 + i) (by omega) (mpd_z hlt)] at hP hD
    have hP : va_P D vwCl (wm r cI cJ ((hz + 1 + i) + 1) tl lv mn vs cb (cat hs hz (mpd hz) (1 + i + 1)) su sc ro be tp bs sz lw mi) H := hP
    have hD : va_D A (wm r cI cJ ((hz + 1 + i) + 1) tl lv mn vs cb (cat hs hz (mpd hz) (1 + i + 1)) su sc ro be tp bs sz lw mi) := hD
    refine lv_goto (tgt := 12) hx hb dX2_digest_29 (by decide) ?_
    exact ih hlt _ _ _ ⟨hP, hD, hS, (lv_sub hl [0, 1] rfl)⟩

set_option maxHeartbeats 4000000 in
set_option maxRecDepth 100000 in
theorem m_keep (l : Launch) (D : va_G) (A : Nat → Prop) (r : Nat → Nat) (cI cJ : ClassId) (hz tl lv mn vs cb : Nat) (hs su sc ro be tp bs : Nat → Int32) (sz : Nat → Nat) (lw mi : Nat → Int64) (k : Nat) (h1 : k < 100) : Kv (S := Unit) l yX2_keep wsX2_keep { frames := 1, cells := 0, slots := 0, locals := 21 } D vwCl [(cI, .int), (cJ, .long)] A [] [.ref (r 0), .int (nI k)] (wm r cI cJ hz tl lv mn vs cb hs su sc ro be tp bs sz lw mi) (fun _ => True) (fun _ => (wm r cI cJ hz tl lv mn vs cb hs su sc ro be tp bs sz (catL lw (4 * k) (lw8 su) 4) mi)) := by
  refine Met.ofW (cc := cX2_keep) (maxL := 3) (ret := none) (by decide) rfl ?_
  intro p e s m args below meth c s₁ B hml hv
  obtain ⟨rfl, hP, hK, hD, hZ⟩ := hv
  have hx := B.exec
  have hb := B.bytes
  have hr := B.returns
  have hts := atoms_spec (ws := wsX2_keep) B.pre
  have hown : s.vm.findClass RX2 = some m.cls := findClass_of_methodNamed B.named
  have hlocks := B.notSynchronized
  have hS : va_S A s.heap s.heap [] := va_S.rf
  have hin_2 : ∀ w ∈ u_ws RX2 TX2 16, w ∈ wsX2_keep := fun w h => List.mem_cons_of_mem _ (List.mem_append_right _ h)
  have lk_60 := hts (.fieldLink RX2 60 "RootDeskModel" "level" "[J") (inM (List.mem_of_getElem? (i := 30) rfl))
  have hl := lv_entry ([.ref (r 0), .int (nI k)]) (n := 3) (Nat.le_of_ble_eq_true rfl)
  rw [lg_entry_eq]
  generalize (lg_sl ([.ref (r 0), .int (nI k)]) ++ List.replicate (3 - (lg_sl ([.ref (r 0), .int (nI k)])).length) Slot.unset).toArray = ls at hl ⊢
  have hl : lv_has ls 3 [(0, .ref (r 0)), (1, .int (nI k))] := hl
  rw [← catL_0 lw (4 * k) (lw8 su)] at hP hD
  refine lv_iconst (v := (nI (0))) hx hb dX2_keep_0 (by decide) ?_
  refine lv_istore_n (lv' := [(2, .int (nI 0)), (0, .ref (r 0)), (1, .int (nI k))]) hx hb dX2_keep_1 rfl hl (by decide) rfl (fun ls hl => ?_)
  refine kp_lp (hd := 2) (nn := 4) (fun (i : Nat) (H : Heap) (locs : List Loc) (ls : Array Slot) => va_P D vwCl (wm r cI cJ hz tl lv mn vs cb hs su sc ro be tp bs sz (catL lw (4 * k) (lw8 su) i) mi) H ∧ va_D A (wm r cI cJ hz tl lv mn vs cb hs su sc ro be tp bs sz (catL lw (4 * k) (lw8 su) i) mi) ∧ va_S A s.heap H locs ∧ lv_has ls 3 [(0, .ref (r 0)), (1, .int (nI k)), (2, .int (nI i))]) ?_ 0 (by omega) _ _ _ ⟨hP, hD, hS, (lv_sub hl [1, 2, 0] rfl)⟩
  intro i hiN H locs ls hI ih
  obtain ⟨hP, hD, hS, hl⟩ := hI
  refine lv_iload_n hx hb dX2_keep_2 rfl (lv_at hl 2 rfl) ?_
  refine lv_iconst (v := (nI (4))) hx hb dX2_keep_3 (by decide) ?_
  refine lv_icmp_ge (tgt := 28) hx hb dX2_keep_4 (by decide) (fun c_4 => ?_) (fun c_4 => ?_)
  · have c_4 : 4 ≤ i := kn_le c_4 (by omega) (by omega)
    have e9 : 4 = i := by omega
    subst e9
    exact kr_v (()) hx hb hr hlocks hK hP hD hS (trivial) dX2_keep_28
  · have c_4 : i < 4 := kn_nle c_4 (by omega) (by omega)
    have hlt : i < 4 := c_4
    refine lv_aload_n hx hb dX2_keep_7 rfl (lv_at hl 0 rfl) ?_
    refine va_get (D := D) (ci := 2) (v := .ref (r 9)) (C := RX2) (T := TX2) (N := 16) hx hb hts hin_2 hown hK hP 0 rfl rfl 11 (by decide) lk_60 (fun _ h9 => h9) rfl dX2_keep_8 ?_
    refine lv_iconst (v := (nI (4))) hx hb dX2_keep_11 (by decide) ?_
    refine lv_iload_n hx hb dX2_keep_12 rfl (lv_at hl 1 rfl) ?_
    refine lv_imul hx hb dX2_keep_13 ?_
    refine kp_i (pk_mul _ _) ?_
    refine lv_iload_n hx hb dX2_keep_14 rfl (lv_at hl 2 rfl) ?_
    refine lv_iadd hx hb dX2_keep_15 ?_
    refine kp_i (nI_add _ _) ?_
    refine lv_aload_n hx hb dX2_keep_16 rfl (lv_at hl 0 rfl) ?_
    refine lv_iload_n hx hb dX2_keep_17 rfl (lv_at hl 2 rfl) ?_
    refine kc_l (As := [.int (nI i)]) (rest := [.int (nI ((4 * k) + i)), .ref (r 9)]) ⟨hx, hb, hml, hown, hts⟩ (m_sum l D A r cI cJ hz tl lv mn vs cb hs su sc ro be tp bs sz (catL lw (4 * k) (lw8 su) i) mi i (by omega)) (cwV 1 hts (gMV (List.mem_of_getElem? (i := 57) rfl) (List.mem_of_getElem? (i := 58) rfl) (List.mem_of_getElem? (i := 115) rfl) (List.mem_of_getElem? (i := 0) rfl) (List.mem_of_getElem? (i := 59) rfl)) rfl rfl rfl (by decide +kernel) ⟨Nat.le_of_ble_eq_true rfl, Nat.le_of_ble_eq_true rfl⟩) (va_recv hK hP (ci := 2) (q0 := 0) rfl rfl) hK hP hD hS hZ rfl hl.1 rfl (Nat.le_of_ble_eq_true rfl) ⟨Nat.zero_le _, Nat.zero_le _⟩ dX2_keep_18 (fun r_1 _ H locs hw hP hD hS => ?_)
    have hw : r_1 = (lw8 su i) := hw
    subst hw
    have hP : va_P D vwCl (wm r cI cJ hz tl lv mn vs cb hs su sc ro be tp bs sz (catL lw (4 * k) (lw8 su) i) mi) H := hP
    have hD : va_D A (wm r cI cJ hz tl lv mn vs cb hs su sc ro be tp bs sz (catL lw (4 * k) (lw8 su) i) mi) := hD
    refine kb_last hx hb hK hP hD hS 9 1 rfl rfl ((4 * k) + i) (rfl) (by omega) (by decide) dX2_keep_21 (fun H locs hP hD hS => ?_)
    have hP : va_P D vwCl (wm r cI cJ hz tl lv mn vs cb hs su sc ro be tp bs sz (vp_updL (catL lw (4 * k) (lw8 su) i) ((4 * k) + i) ((lw8 su i))) mi) H := hP
    have hD : va_D A (wm r cI cJ hz tl lv mn vs cb hs su sc ro be tp bs sz (vp_updL (catL lw (4 * k) (lw8 su) i) ((4 * k) + i) ((lw8 su i))) mi) := hD
    rw [catL_s _ _ _ _ rfl] at hP hD
    have hP : va_P D vwCl (wm r cI cJ hz tl lv mn vs cb hs su sc ro be tp bs sz (catL lw (4 * k) (lw8 su) (i + 1)) mi) H := hP
    have hD : va_D A (wm r cI cJ hz tl lv mn vs cb hs su sc ro be tp bs sz (catL lw (4 * k) (lw8 su) (i + 1)) mi) := hD
    refine lv_iinc (v := (nI (i + 1))) (lv' := [(2, .int (nI (i + 1))), (0, .ref (r 0)), (1, .int (nI k))]) hx hb dX2_keep_22 hl (k := 2) rfl (kn_inc _ _ 1 rfl) (by decide) rfl (fun ls hl => ?_)
    refine lv_goto (tgt := 2) hx hb dX2_keep_25 (by decide) ?_
    exact ih hlt _ _ _ ⟨hP, hD, hS, (lv_sub hl [1, 2, 0] rfl)⟩

set_option maxHeartbeats 4000000 in
set_option maxRecDepth 100000 in
theorem m_hashTape (l : Launch) (D : va_G) (A : Nat → Prop) (r : Nat → Nat) (cI cJ : ClassId) (hz tl lv mn vs cb : Nat) (hs su sc ro be tp bs : Nat → Int32) (sz : Nat → Nat) (lw mi : Nat → Int64) (ms : Nat → Int32) (ct : Nat → Int32) (h0 : tl ≤ 150) (h1 : hz + tl ≤ 183) (h2 : ∀ j, j < hz → hs j = ms j &&& 255) (h3 : ∀ j, j < 64 → ro j = rwv j) (h4 : ∀ j, j < 8 → be j = fsv j) (h5 : ∀ j, j < tl → tp j = ct j &&& 255) : Kv (S := (Nat × (Nat → Int32) × (Nat → Int32) × (Nat → Int32))) l yX2_hashTape wsX2_hashTape { frames := 3, cells := 0, slots := 0, locals := 75 } D vwCl [(cI, .int), (cJ, .long)] A [] [.ref (r 0)] (wm r cI cJ hz tl lv mn vs cb hs su sc ro be tp bs sz lw mi) (fun u => ∀ j, j < 8 → u.2.2.1 j = hm (cat ms hz ct tl) (hz + tl) j) (fun u => (wm r cI cJ u.1 tl lv mn vs cb u.2.1 u.2.2.1 u.2.2.2 ro be tp bs sz lw mi)) := by
  refine Met.ofW (cc := cX2_hashTape) (maxL := 2) (ret := none) (by decide) rfl ?_
  intro p e s m args below meth c s₁ B hml hv
  obtain ⟨rfl, hP, hK, hD, hZ⟩ := hv
  have hx := B.exec
  have hb := B.bytes
  have hr := B.returns
  have hts := atoms_spec (ws := wsX2_hashTape) B.pre
  have hown : s.vm.findClass RX2 = some m.cls := findClass_of_methodNamed B.named
  have hlocks := B.notSynchronized
  have hS : va_S A s.heap s.heap [] := va_S.rf
  have hin_2 : ∀ w ∈ u_ws RX2 TX2 16, w ∈ wsX2_hashTape := fun w h => List.mem_cons_of_mem _ (List.mem_append_right _ h)
  have lk_51 := hts (.fieldLink RX2 51 "RootDeskModel" "tape" "[I") (inM (List.mem_of_getElem? (i := 25) rfl))
  have lk_70 := hts (.fieldLink RX2 70 "RootDeskModel" "taped" "I") (inM (List.mem_of_getElem? (i := 26) rfl))
  have hl := lv_entry ([.ref (r 0)]) (n := 2) (Nat.le_of_ble_eq_true rfl)
  rw [lg_entry_eq]
  generalize (lg_sl ([.ref (r 0)]) ++ List.replicate (2 - (lg_sl ([.ref (r 0)])).length) Slot.unset).toArray = ls at hl ⊢
  have hl : lv_has ls 2 [(0, .ref (r 0))] := hl
  rw [← cat_0 hs hz (fun j => tp j &&& 255)] at hP hD
  refine lv_iconst (v := (nI (0))) hx hb dX2_hashTape_0 (by decide) ?_
  refine lv_istore_n (lv' := [(1, .int (nI 0)), (0, .ref (r 0))]) hx hb dX2_hashTape_1 rfl hl (by decide) rfl (fun ls hl => ?_)
  refine kp_lp (hd := 2) (nn := tl) (fun (i : Nat) (H : Heap) (locs : List Loc) (ls : Array Slot) => va_P D vwCl (wm r cI cJ (hz + i) tl lv mn vs cb (cat hs hz (fun j => tp j &&& 255) i) su sc ro be tp bs sz lw mi) H ∧ va_D A (wm r cI cJ (hz + i) tl lv mn vs cb (cat hs hz (fun j => tp j &&& 255) i) su sc ro be tp bs sz lw mi) ∧ va_S A s.heap H locs ∧ lv_has ls 2 [(0, .ref (r 0)), (1, .int (nI i))]) ?_ 0 (by omega) _ _ _ ⟨hP, hD, hS, (lv_sub hl [1, 0] rfl)⟩
  intro i hiN H locs ls hI ih
  obtain ⟨hP, hD, hS, hl⟩ := hI
  refine lv_iload_n hx hb dX2_hashTape_2 rfl (lv_at hl 1 rfl) ?_
  refine lv_aload_n hx hb dX2_hashTape_3 rfl (lv_at hl 0 rfl) ?_
  refine va_get (D := D) (ci := 2) (v := .int (nI tl)) (C := RX2) (T := TX2) (N := 16) hx hb hts hin_2 hown hK hP 0 rfl rfl 7 (by decide) lk_70 (fun _ h9 => h9) rfl dX2_hashTape_4 ?_
  refine lv_icmp_ge (tgt := 26) hx hb dX2_hashTape_7 (by decide) (fun c_7 => ?_) (fun c_7 => ?_)
  · have c_7 : tl ≤ i := kn_le c_7 (by omega) (by omega)
    have e9 : tl = i := by omega
    subst e9
    refine lv_aload_n hx hb dX2_hashTape_26 rfl (lv_at hl 0 rfl) ?_
    refine kc_v (As := []) (rest := []) ⟨hx, hb, hml, hown, hts⟩ (m_digest l D A r cI cJ (hz + tl) tl lv mn vs cb (cat hs hz (fun j => tp j &&& 255) tl) su sc ro be tp bs sz lw mi (cat ms hz ct tl) (by omega) (tape_rel h2 h5) h3 h4) (cwV 0 hts (gMV (List.mem_of_getElem? (i := 48) rfl) (List.mem_of_getElem? (i := 49) rfl) (List.mem_of_getElem? (i := 113) rfl) (List.mem_of_getElem? (i := 0) rfl) (List.mem_of_getElem? (i := 50) rfl)) rfl rfl rfl (by decide +kernel) ⟨Nat.le_of_ble_eq_true rfl, Nat.le_of_ble_eq_true rfl⟩) (va_recv hK hP (ci := 2) (q0 := 0) rfl rfl) hK hP hD hS hZ rfl hl.1 rfl (Nat.le_of_ble_eq_true rfl) ⟨Nat.zero_le _, Nat.zero_le _⟩ dX2_hashTape_27 (fun u_1 H locs hw_u_1 hP hD hS => ?_)
    have hP : va_P D vwCl (wm r cI cJ u_1.1 tl lv mn vs cb u_1.2.1 u_1.2.2.1 u_1.2.2.2 ro be tp bs sz lw mi) H := hP
    have hD : va_D A (wm r cI cJ u_1.1 tl lv mn vs cb u_1.2.1 u_1.2.2.1 u_1.2.2.2 ro be tp bs sz lw mi) := hD
    exact kr_v (u_1) hx hb hr hlocks hK hP hD hS (hw_u_1) dX2_hashTape_30
  · have c_7 : i < tl := kn_nle c_7 (by omega) (by omega)
    have hlt : i < tl := c_7
    refine lv_aload_n hx hb dX2_hashTape_10 rfl (lv_at hl 0 rfl) ?_
    refine lv_aload_n hx hb dX2_hashTape_11 rfl (lv_at hl 0 rfl) ?_
    refine va_get (D := D) (ci := 2) (v := .ref (r 6)) (C := RX2) (T := TX2) (N := 16) hx hb hts hin_2 hown hK hP 0 rfl rfl 6 (by decide) lk_51 (fun _ h9 => h9) rfl dX2_hashTape_12 ?_
    refine lv_iload_n hx hb dX2_hashTape_15 rfl (lv_at hl 1 rfl) ?_
    refine kb_iald hx hb hK hP 6 0 rfl rfl (i) (rfl) (by omega) (by decide) dX2_hashTape_16 ?_
    refine kc_v (As := [.int (tp (i))]) (rest := []) ⟨hx, hb, hml, hown, hts⟩ (m_hashByte l D A r cI cJ (hz + i) tl lv mn vs cb (cat hs hz (fun j => tp j &&& 255) i) su sc ro be tp bs sz lw mi ((tp (i))) (by omega)) (cwV 1 hts (gMV (List.mem_of_getElem? (i := 45) rfl) (List.mem_of_getElem? (i := 46) rfl) (List.mem_of_getElem? (i := 112) rfl) (List.mem_of_getElem? (i := 0) rfl) (List.mem_of_getElem? (i := 47) rfl)) rfl rfl rfl (by decide +kernel) ⟨Nat.le_of_ble_eq_true rfl, Nat.le_of_ble_eq_true rfl⟩) (va_recv hK hP (ci := 2) (q0 := 0) rfl rfl) hK hP hD hS hZ rfl hl.1 rfl (Nat.le_of_ble_eq_true rfl) ⟨Nat.zero_le _, Nat.zero_le _⟩ dX2_hashTape_17 (fun _ H locs _ hP hD hS => ?_)
    have hP : va_P D vwCl (wm r cI cJ ((hz + i) + 1) tl lv mn vs cb (upd (cat hs hz (fun j => tp j &&& 255) i) (hz + i) ((tp (i)) &&& 255)) su sc ro be tp bs sz lw mi) H := hP
    have hD : va_D A (wm r cI cJ ((hz + i) + 1) tl lv mn vs cb (upd (cat hs hz (fun j => tp j &&& 255) i) (hz + i) ((tp (i)) &&& 255)) su sc ro be tp bs sz lw mi) := hD
    rw [cat_s _ _ _ _ rfl] at hP hD
    have hP : va_P D vwCl (wm r cI cJ ((hz + i) + 1) tl lv mn vs cb (cat hs hz (fun j => tp j &&& 255) (i + 1)) su sc ro be tp bs sz lw mi) H := hP
    have hD : va_D A (wm r cI cJ ((hz + i) + 1) tl lv mn vs cb (cat hs hz (fun j => tp j &&& 255) (i + 1)) su sc ro be tp bs sz lw mi) := hD
    refine lv_iinc (v := (nI (i + 1))) (lv' := [(1, .int (nI (i + 1))), (0, .ref (r 0))]) hx hb dX2_hashTape_20 hl (k := 1) rfl (kn_inc _ _ 1 rfl) (by decide) rfl (fun ls hl => ?_)
    refine lv_goto (tgt := 2) hx hb dX2_hashTape_23 (by decide) ?_
    exact ih hlt _ _ _ ⟨hP, hD, hS, (lv_sub hl [1, 0] rfl)⟩
