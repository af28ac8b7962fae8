set_option maxHeartbeats 4000000 in
set_option maxRecDepth 100000 in
theorem m_isAbove (l : Launch) (D : va_G) (A : Nat → Prop) (r : Nat → Nat) (cI cJ : ClassId) (ws : va_W) (t : Int64) (p0 : Int32) (k : Int32) : Ki (S := Unit) l yX2_isAbove wsX2_isAbove { frames := 0, cells := 0, slots := 0, locals := 0 } D vwCl [(cI, .int), (cJ, .long)] A [] [.long t, .int p0, .int k] ws (fun r _ => r = (bz (isAb (t) (p0) (k)))) (fun _ => ws) := by
  refine Met.ofW (cc := cX2_isAbove) (maxL := 30) (ret := (some .boolean)) (by decide) rfl ?_
  intro p e s m args below meth c s₁ B hml hv
  obtain ⟨rfl, hP, hK, hD, hZ⟩ := hv
  have hx := B.exec
  have hb := B.bytes
  have hr := B.returns
  have hts := atoms_spec (ws := wsX2_isAbove) B.pre
  have hown : s.vm.findClass RX2 = some m.cls := findClass_of_methodNamed B.named
  have hlocks := B.notSynchronized
  have hS : va_S A s.heap s.heap [] := va_S.rf
  have hl := lv_entry ([.long t, .int p0, .int k]) (n := 30) (Nat.le_of_ble_eq_true rfl)
  rw [lg_entry_eq]
  generalize (lg_sl ([.long t, .int p0, .int k]) ++ List.replicate (30 - (lg_sl ([.long t, .int p0, .int k])).length) Slot.unset).toArray = ls at hl ⊢
  have hl : lv_has ls 30 [(0, .long t), (2, .int p0), (3, .int k)] := hl
  refine lv_lload_n hx hb dX2_isAbove_0 rfl (lv_at hl 0 rfl) ?_
  refine lv_bipush (v := ((32 : Int32))) hx hb dX2_isAbove_1 (by decide) ?_
  refine lv_lshr hx hb dX2_isAbove_3 rfl ?_
  refine kp_l (y := (A_a t)) (rfl) ?_
  refine lv_lstore (lv' := [(4, .long (A_a t)), (0, .long t), (2, .int p0), (3, .int k)]) hx hb dX2_isAbove_4 hl (by decide) rfl (fun ls hl => ?_)
  refine lv_lload_n hx hb dX2_isAbove_6 rfl (lv_at hl 1 rfl) ?_
  refine lv_ldc2 (v := 4294967295) hx hb hown (hts (.constantLong RX2 18 (4294967295)) (inM (List.mem_of_getElem? (i := 17) rfl))) dX2_isAbove_7 ?_
  refine lv_land hx hb dX2_isAbove_10 ?_
  refine kp_l (y := (A_b t)) (rfl) ?_
  refine lv_lstore (lv' := [(6, .long (A_b t)), (4, .long (A_a t)), (0, .long t), (2, .int p0), (3, .int k)]) hx hb dX2_isAbove_11 hl (by decide) rfl (fun ls hl => ?_)
  refine lv_lload hx hb dX2_isAbove_13 (lv_at hl 0 rfl) ?_
  refine lv_lload hx hb dX2_isAbove_15 (lv_at hl 0 rfl) ?_
  refine lv_lmul hx hb dX2_isAbove_17 ?_
  refine kp_l (y := (A_q t)) (rfl) ?_
  refine lv_lstore (lv' := [(8, .long (A_q t)), (6, .long (A_b t)), (4, .long (A_a t)), (0, .long t), (2, .int p0), (3, .int k)]) hx hb dX2_isAbove_18 hl (by decide) rfl (fun ls hl => ?_)
  refine lv_lload hx hb dX2_isAbove_20 (lv_at hl 0 rfl) ?_
  refine lv_ldc2 (v := 4294967295) hx hb hown (hts (.constantLong RX2 18 (4294967295)) (inM (List.mem_of_getElem? (i := 17) rfl))) dX2_isAbove_22 ?_
  refine lv_land hx hb dX2_isAbove_25 ?_
  refine kp_l (y := (A_l t)) (rfl) ?_
  refine lv_lstore (lv' := [(10, .long (A_l t)), (8, .long (A_q t)), (6, .long (A_b t)), (4, .long (A_a t)), (0, .long t), (2, .int p0), (3, .int k)]) hx hb dX2_isAbove_26 hl (by decide) rfl (fun ls hl => ?_)
  refine lv_lload hx hb dX2_isAbove_28 (lv_at hl 1 rfl) ?_
  refine lv_bipush (v := ((32 : Int32))) hx hb dX2_isAbove_30 (by decide) ?_
  refine lv_lushr hx hb dX2_isAbove_32 rfl ?_
  refine lv_ldc2 (v := 2) hx hb hown (hts (.constantLong RX2 20 (2)) (inM (List.mem_of_getElem? (i := 18) rfl))) dX2_isAbove_33 ?_
  refine lv_lload hx hb dX2_isAbove_36 (lv_at hl 3 rfl) ?_
  refine lv_lmul hx hb dX2_isAbove_38 ?_
  refine lv_lload hx hb dX2_isAbove_39 (lv_at hl 2 rfl) ?_
  refine lv_lmul hx hb dX2_isAbove_41 ?_
  refine lv_ldc2 (v := 4294967295) hx hb hown (hts (.constantLong RX2 18 (4294967295)) (inM (List.mem_of_getElem? (i := 17) rfl))) dX2_isAbove_42 ?_
  refine lv_land hx hb dX2_isAbove_45 ?_
  refine lv_ladd hx hb dX2_isAbove_46 ?_
  refine kp_l (y := (A_n t)) (rfl) ?_
  refine lv_lstore (lv' := [(12, .long (A_n t)), (10, .long (A_l t)), (8, .long (A_q t)), (6, .long (A_b t)), (4, .long (A_a t)), (0, .long t), (2, .int p0), (3, .int k)]) hx hb dX2_isAbove_47 hl (by decide) rfl (fun ls hl => ?_)
  refine lv_lload hx hb dX2_isAbove_49 (lv_at hl 4 rfl) ?_
  refine lv_lload hx hb dX2_isAbove_51 (lv_at hl 4 rfl) ?_
  refine lv_lmul hx hb dX2_isAbove_53 ?_
  refine lv_ldc2 (v := 2) hx hb hown (hts (.constantLong RX2 20 (2)) (inM (List.mem_of_getElem? (i := 18) rfl))) dX2_isAbove_54 ?_
  refine lv_lload hx hb dX2_isAbove_57 (lv_at hl 4 rfl) ?_
  refine lv_lmul hx hb dX2_isAbove_59 ?_
  refine lv_lload hx hb dX2_isAbove_60 (lv_at hl 3 rfl) ?_
  refine lv_lmul hx hb dX2_isAbove_62 ?_
  refine lv_bipush (v := ((32 : Int32))) hx hb dX2_isAbove_63 (by decide) ?_
  refine lv_lushr hx hb dX2_isAbove_65 rfl ?_
  refine lv_ladd hx hb dX2_isAbove_66 ?_
  refine lv_lload hx hb dX2_isAbove_67 (lv_at hl 0 rfl) ?_
  refine lv_bipush (v := ((32 : Int32))) hx hb dX2_isAbove_69 (by decide) ?_
  refine lv_lushr hx hb dX2_isAbove_71 rfl ?_
  refine lv_ladd hx hb dX2_isAbove_72 ?_
  refine kp_l (y := (A_t t)) (rfl) ?_
  refine lv_lstore (lv' := [(14, .long (A_t t)), (12, .long (A_n t)), (10, .long (A_l t)), (8, .long (A_q t)), (6, .long (A_b t)), (4, .long (A_a t)), (0, .long t), (2, .int p0), (3, .int k)]) hx hb dX2_isAbove_73 hl (by decide) rfl (fun ls hl => ?_)
  refine lv_lload hx hb dX2_isAbove_75 (lv_at hl 1 rfl) ?_
  refine lv_ldc2 (v := 4294967295) hx hb hown (hts (.constantLong RX2 18 (4294967295)) (inM (List.mem_of_getElem? (i := 17) rfl))) dX2_isAbove_77 ?_
  refine lv_land hx hb dX2_isAbove_80 ?_
  refine kp_l (y := (A_m t)) (rfl) ?_
  refine lv_lstore (lv' := [(12, .long (A_m t)), (14, .long (A_t t)), (10, .long (A_l t)), (8, .long (A_q t)), (6, .long (A_b t)), (4, .long (A_a t)), (0, .long t), (2, .int p0), (3, .int k)]) hx hb dX2_isAbove_81 hl (by decide) rfl (fun ls hl => ?_)
  refine lv_iload_n hx hb dX2_isAbove_83 rfl (lv_at hl 8 rfl) ?_
  refine lv_iconst (v := ((2 : Int32))) hx hb dX2_isAbove_84 (by decide) ?_
  refine lv_icmp_ne (tgt := 124) hx hb dX2_isAbove_85 (by decide) (fun c_85 => ?_) (fun c_85 => ?_)
  · refine lv_lload hx hb dX2_isAbove_124 (lv_at hl 2 rfl) ?_
    refine lv_lload hx hb dX2_isAbove_126 (lv_at hl 4 rfl) ?_
    refine lv_lmul hx hb dX2_isAbove_128 ?_
    refine kp_l (y := (B_x t)) (rfl) ?_
    refine lv_lstore (lv' := [(16, .long (B_x t)), (12, .long (A_m t)), (14, .long (A_t t)), (10, .long (A_l t)), (8, .long (A_q t)), (6, .long (A_b t)), (4, .long (A_a t)), (0, .long t), (2, .int p0), (3, .int k)]) hx hb dX2_isAbove_129 hl (by decide) rfl (fun ls hl => ?_)
    refine lv_lload hx hb dX2_isAbove_131 (lv_at hl 1 rfl) ?_
    refine lv_lload hx hb dX2_isAbove_133 (lv_at hl 5 rfl) ?_
    refine lv_lmul hx hb dX2_isAbove_135 ?_
    refine kp_l (y := (B_y t)) (rfl) ?_
    refine lv_lstore (lv' := [(18, .long (B_y t)), (16, .long (B_x t)), (12, .long (A_m t)), (14, .long (A_t t)), (10, .long (A_l t)), (8, .long (A_q t)), (6, .long (A_b t)), (4, .long (A_a t)), (0, .long t), (2, .int p0), (3, .int k)]) hx hb dX2_isAbove_136 hl (by decide) rfl (fun ls hl => ?_)
    refine lv_lload hx hb dX2_isAbove_138 (lv_at hl 3 rfl) ?_
    refine lv_lload hx hb dX2_isAbove_140 (lv_at hl 6 rfl) ?_
    refine lv_lmul hx hb dX2_isAbove_142 ?_
    refine kp_l (y := (B_z t)) (rfl) ?_
    refine lv_lstore (lv' := [(20, .long (B_z t)), (18, .long (B_y t)), (16, .long (B_x t)), (12, .long (A_m t)), (14, .long (A_t t)), (10, .long (A_l t)), (8, .long (A_q t)), (6, .long (A_b t)), (4, .long (A_a t)), (0, .long t), (2, .int p0), (3, .int k)]) hx hb dX2_isAbove_143 hl (by decide) rfl (fun ls hl => ?_)
    refine lv_lload hx hb dX2_isAbove_145 (lv_at hl 2 rfl) ?_
    refine lv_ldc2 (v := 4294967295) hx hb hown (hts (.constantLong RX2 18 (4294967295)) (inM (List.mem_of_getElem? (i := 17) rfl))) dX2_isAbove_147 ?_
    refine lv_land hx hb dX2_isAbove_150 ?_
    refine kp_l (y := (B_0 t)) (rfl) ?_
    refine lv_lstore (lv' := [(22, .long (B_0 t)), (20, .long (B_z t)), (18, .long (B_y t)), (16, .long (B_x t)), (12, .long (A_m t)), (14, .long (A_t t)), (10, .long (A_l t)), (8, .long (A_q t)), (6, .long (A_b t)), (4, .long (A_a t)), (0, .long t), (2, .int p0), (3, .int k)]) hx hb dX2_isAbove_151 hl (by decide) rfl (fun ls hl => ?_)
    refine lv_lload hx hb dX2_isAbove_153 (lv_at hl 3 rfl) ?_
    refine lv_bipush (v := ((32 : Int32))) hx hb dX2_isAbove_155 (by decide) ?_
    refine lv_lushr hx hb dX2_isAbove_157 rfl ?_
    refine lv_lload hx hb dX2_isAbove_158 (lv_at hl 2 rfl) ?_
    refine lv_ldc2 (v := 4294967295) hx hb hown (hts (.constantLong RX2 18 (4294967295)) (inM (List.mem_of_getElem? (i := 17) rfl))) dX2_isAbove_160 ?_
    refine lv_land hx hb dX2_isAbove_163 ?_
    refine lv_ladd hx hb dX2_isAbove_164 ?_
    refine lv_lload hx hb dX2_isAbove_165 (lv_at hl 6 rfl) ?_
    refine lv_lload hx hb dX2_isAbove_167 (lv_at hl 9 rfl) ?_
    refine lv_lmul hx hb dX2_isAbove_169 ?_
    refine lv_ladd hx hb dX2_isAbove_170 ?_
    refine kp_l (y := (B_p t)) (rfl) ?_
    refine lv_lstore (lv' := [(24, .long (B_p t)), (22, .long (B_0 t)), (20, .long (B_z t)), (18, .long (B_y t)), (16, .long (B_x t)), (12, .long (A_m t)), (14, .long (A_t t)), (10, .long (A_l t)), (8, .long (A_q t)), (6, .long (A_b t)), (4, .long (A_a t)), (0, .long t), (2, .int p0), (3, .int k)]) hx hb dX2_isAbove_171 hl (by decide) rfl (fun ls hl => ?_)
    refine lv_lload hx hb dX2_isAbove_173 (lv_at hl 3 rfl) ?_
    refine lv_bipush (v := ((32 : Int32))) hx hb dX2_isAbove_175 (by decide) ?_
    refine lv_lushr hx hb dX2_isAbove_177 rfl ?_
    refine lv_lload hx hb dX2_isAbove_178 (lv_at hl 2 rfl) ?_
    refine lv_ladd hx hb dX2_isAbove_180 ?_
    refine lv_lload hx hb dX2_isAbove_181 (lv_at hl 5 rfl) ?_
    refine lv_lload hx hb dX2_isAbove_183 (lv_at hl 10 rfl) ?_
    refine lv_lmul hx hb dX2_isAbove_185 ?_
    refine lv_ladd hx hb dX2_isAbove_186 ?_
    refine lv_lload hx hb dX2_isAbove_187 (lv_at hl 0 rfl) ?_
    refine lv_bipush (v := ((32 : Int32))) hx hb dX2_isAbove_189 (by decide) ?_
    refine lv_lushr hx hb dX2_isAbove_191 rfl ?_
    refine lv_ladd hx hb dX2_isAbove_192 ?_
    refine kp_l (y := (B_q t)) (rfl) ?_
    refine lv_lstore (lv' := [(26, .long (B_q t)), (24, .long (B_p t)), (22, .long (B_0 t)), (20, .long (B_z t)), (18, .long (B_y t)), (16, .long (B_x t)), (12, .long (A_m t)), (14, .long (A_t t)), (10, .long (A_l t)), (8, .long (A_q t)), (6, .long (A_b t)), (4, .long (A_a t)), (0, .long t), (2, .int p0), (3, .int k)]) hx hb dX2_isAbove_193 hl (by decide) rfl (fun ls hl => ?_)
    refine lv_lload hx hb dX2_isAbove_195 (lv_at hl 7 rfl) ?_
    refine lv_lload hx hb dX2_isAbove_197 (lv_at hl 11 rfl) ?_
    refine lv_lmul hx hb dX2_isAbove_199 ?_
    refine lv_lload hx hb dX2_isAbove_200 (lv_at hl 0 rfl) ?_
    refine lv_bipush (v := ((32 : Int32))) hx hb dX2_isAbove_202 (by decide) ?_
    refine lv_lushr hx hb dX2_isAbove_204 rfl ?_
    refine lv_ladd hx hb dX2_isAbove_205 ?_
    refine kp_l (y := (B_3 t)) (rfl) ?_
    refine lv_lstore (lv' := [(28, .long (B_3 t)), (26, .long (B_q t)), (24, .long (B_p t)), (22, .long (B_0 t)), (20, .long (B_z t)), (18, .long (B_y t)), (16, .long (B_x t)), (12, .long (A_m t)), (14, .long (A_t t)), (10, .long (A_l t)), (8, .long (A_q t)), (6, .long (A_b t)), (4, .long (A_a t)), (0, .long t), (2, .int p0), (3, .int k)]) hx hb dX2_isAbove_206 hl (by decide) rfl (fun ls hl => ?_)
    refine lv_lload hx hb dX2_isAbove_208 (lv_at hl 2 rfl) ?_
    refine lv_ldc2 (v := 4294967295) hx hb hown (hts (.constantLong RX2 18 (4294967295)) (inM (List.mem_of_getElem? (i := 17) rfl))) dX2_isAbove_210 ?_
    refine lv_land hx hb dX2_isAbove_213 ?_
    refine kp_l (y := (B_1 t)) (rfl) ?_
    refine lv_lstore (lv' := [(24, .long (B_1 t)), (28, .long (B_3 t)), (26, .long (B_q t)), (22, .long (B_0 t)), (20, .long (B_z t)), (18, .long (B_y t)), (16, .long (B_x t)), (12, .long (A_m t)), (14, .long (A_t t)), (10, .long (A_l t)), (8, .long (A_q t)), (6, .long (A_b t)), (4, .long (A_a t)), (0, .long t), (2, .int p0), (3, .int k)]) hx hb dX2_isAbove_214 hl (by decide) rfl (fun ls hl => ?_)
    refine lv_lload hx hb dX2_isAbove_216 (lv_at hl 2 rfl) ?_
    refine lv_ldc2 (v := 4294967295) hx hb hown (hts (.constantLong RX2 18 (4294967295)) (inM (List.mem_of_getElem? (i := 17) rfl))) dX2_isAbove_218 ?_
    refine lv_land hx hb dX2_isAbove_221 ?_
    refine kp_l (y := (B_2 t)) (rfl) ?_
    refine lv_lstore (lv' := [(26, .long (B_2 t)), (24, .long (B_1 t)), (28, .long (B_3 t)), (22, .long (B_0 t)), (20, .long (B_z t)), (18, .long (B_y t)), (16, .long (B_x t)), (12, .long (A_m t)), (14, .long (A_t t)), (10, .long (A_l t)), (8, .long (A_q t)), (6, .long (A_b t)), (4, .long (A_a t)), (0, .long t), (2, .int p0), (3, .int k)]) hx hb dX2_isAbove_222 hl (by decide) rfl (fun ls hl => ?_)
    refine lv_lload hx hb dX2_isAbove_224 (lv_at hl 2 rfl) ?_
    refine lv_iload_n hx hb dX2_isAbove_226 rfl (lv_at hl 14 rfl) ?_
    refine lv_i2l hx hb dX2_isAbove_227 rfl ?_
    refine W.lcmp hx hb dX2_isAbove_228 ?_
    refine lv_if_gt (tgt := 261) hx hb dX2_isAbove_229 (by decide) (fun c_229 => ?_) (fun c_229 => ?_)
    · refine lv_iconst (v := ((1 : Int32))) hx hb dX2_isAbove_261 (by decide) ?_
      refine lv_goto (tgt := 266) hx hb dX2_isAbove_262 (by decide) ?_
      exact kr_z (()) hx hb hr hlocks hK hP hD hS (rfl) (by unfold isAb; first | (rw [if_neg c_85, if_pos c_229]; rfl) | (rw [if_neg c_85, if_neg c_229, if_neg c_237]; rfl) | (rw [if_neg c_85, if_neg c_229, if_pos c_237, if_pos c_244]; rfl) | (rw [if_neg c_85, if_neg c_229, if_pos c_237, if_neg c_244, if_pos c_251]; rfl) | (rw [if_neg c_85, if_neg c_229, if_pos c_237, if_neg c_244, if_neg c_251, if_pos c_258]; rfl) | (rw [if_neg c_85, if_neg c_229, if_pos c_237, if_neg c_244, if_neg c_251, if_neg c_258]; rfl)) dX2_isAbove_266
    · refine lv_lload hx hb dX2_isAbove_232 (lv_at hl 2 rfl) ?_
      refine lv_iload_n hx hb dX2_isAbove_234 rfl (lv_at hl 14 rfl) ?_
      refine lv_i2l hx hb dX2_isAbove_235 rfl ?_
      refine W.lcmp hx hb dX2_isAbove_236 ?_
      refine lv_if_ne (tgt := 265) hx hb dX2_isAbove_237 (by decide) (fun c_237 => ?_) (fun c_237 => ?_)
      · refine lv_iconst (v := ((0 : Int32))) hx hb dX2_isAbove_265 (by decide) ?_
        exact kr_z (()) hx hb hr hlocks hK hP hD hS (rfl) (by unfold isAb; first | (rw [if_neg c_85, if_pos c_229]; rfl) | (rw [if_neg c_85, if_neg c_229, if_neg c_237]; rfl) | (rw [if_neg c_85, if_neg c_229, if_pos c_237, if_pos c_244]; rfl) | (rw [if_neg c_85, if_neg c_229, if_pos c_237, if_neg c_244, if_pos c_251]; rfl) | (rw [if_neg c_85, if_neg c_229, if_pos c_237, if_neg c_244, if_neg c_251, if_pos c_258]; rfl) | (rw [if_neg c_85, if_neg c_229, if_pos c_237, if_neg c_244, if_neg c_251, if_neg c_258]; rfl)) dX2_isAbove_266
      · refine lv_lload hx hb dX2_isAbove_240 (lv_at hl 0 rfl) ?_
        refine lv_lconst (v := 0) hx hb dX2_isAbove_242 (by decide) ?_
        refine W.lcmp hx hb dX2_isAbove_243 ?_
        refine lv_if_gt (tgt := 261) hx hb dX2_isAbove_244 (by decide) (fun c_244 => ?_) (fun c_244 => ?_)
        · refine lv_iconst (v := ((1 : Int32))) hx hb dX2_isAbove_261 (by decide) ?_
          refine lv_goto (tgt := 266) hx hb dX2_isAbove_262 (by decide) ?_
          exact kr_z (()) hx hb hr hlocks hK hP hD hS (rfl) (by unfold isAb; first | (rw [if_neg c_85, if_pos c_229]; rfl) | (rw [if_neg c_85, if_neg c_229, if_neg c_237]; rfl) | (rw [if_neg c_85, if_neg c_229, if_pos c_237, if_pos c_244]; rfl) | (rw [if_neg c_85, if_neg c_229, if_pos c_237, if_neg c_244, if_pos c_251]; rfl) | (rw [if_neg c_85, if_neg c_229, if_pos c_237, if_neg c_244, if_neg c_251, if_pos c_258]; rfl) | (rw [if_neg c_85, if_neg c_229, if_pos c_237, if_neg c_244, if_neg c_251, if_neg c_258]; rfl)) dX2_isAbove_266
        · refine lv_lload hx hb dX2_isAbove_247 (lv_at hl 1 rfl) ?_
          refine lv_lconst (v := 0) hx hb dX2_isAbove_249 (by decide) ?_
          refine W.lcmp hx hb dX2_isAbove_250 ?_
          refine lv_if_gt (tgt := 261) hx hb dX2_isAbove_251 (by decide) (fun c_251 => ?_) (fun c_251 => ?_)
          · refine lv_iconst (v := ((1 : Int32))) hx hb dX2_isAbove_261 (by decide) ?_
            refine lv_goto (tgt := 266) hx hb dX2_isAbove_262 (by decide) ?_
            exact kr_z (()) hx hb hr hlocks hK hP hD hS (rfl) (by unfold isAb; first | (rw [if_neg c_85, if_pos c_229]; rfl) | (rw [if_neg c_85, if_neg c_229, if_neg c_237]; rfl) | (rw [if_neg c_85, if_neg c_229, if_pos c_237, if_pos c_244]; rfl) | (rw [if_neg c_85, if_neg c_229, if_pos c_237, if_neg c_244, if_pos c_251]; rfl) | (rw [if_neg c_85, if_neg c_229, if_pos c_237, if_neg c_244, if_neg c_251, if_pos c_258]; rfl) | (rw [if_neg c_85, if_neg c_229, if_pos c_237, if_neg c_244, if_neg c_251, if_neg c_258]; rfl)) dX2_isAbove_266
          · refine lv_lload hx hb dX2_isAbove_254 (lv_at hl 3 rfl) ?_
            refine lv_lconst (v := 0) hx hb dX2_isAbove_256 (by decide) ?_
            refine W.lcmp hx hb dX2_isAbove_257 ?_
            refine lv_if_le (tgt := 265) hx hb dX2_isAbove_258 (by decide) (fun c_258 => ?_) (fun c_258 => ?_)
            · refine lv_iconst (v := ((0 : Int32))) hx hb dX2_isAbove_265 (by decide) ?_
              exact kr_z (()) hx hb hr hlocks hK hP hD hS (rfl) (by unfold isAb; first | (rw [if_neg c_85, if_pos c_229]; rfl) | (rw [if_neg c_85, if_neg c_229, if_neg c_237]; rfl) | (rw [if_neg c_85, if_neg c_229, if_pos c_237, if_pos c_244]; rfl) | (rw [if_neg c_85, if_neg c_229, if_pos c_237, if_neg c_244, if_pos c_251]; rfl) | (rw [if_neg c_85, if_neg c_229, if_pos c_237, if_neg c_244, if_neg c_251, if_pos c_258]; rfl) | (rw [if_neg c_85, if_neg c_229, if_pos c_237, if_neg c_244, if_neg c_251, if_neg c_258]; rfl)) dX2_isAbove_266
            · refine lv_iconst (v := ((1 : Int32))) hx hb dX2_isAbove_261 (by decide) ?_
              refine lv_goto (tgt := 266) hx hb dX2_isAbove_262 (by decide) ?_
              exact kr_z (()) hx hb hr hlocks hK hP hD hS (rfl) (by unfold isAb; first | (rw [if_neg c_85, if_pos c_229]; rfl) | (rw [if_neg c_85, if_neg c_229, if_neg c_237]; rfl) | (rw [if_neg c_85, if_neg c_229, if_pos c_237, if_pos c_244]; rfl) | (rw [if_neg c_85, if_neg c_229, if_pos c_237, if_neg c_244, if_pos c_251]; rfl) | (rw [if_neg c_85, if_neg c_229, if_pos c_237, if_neg c_244, if_neg c_251, if_pos c_258]; rfl) | (rw [if_neg c_85, if_neg c_229, if_pos c_237, if_neg c_244, if_neg c_251, if_neg c_258]; rfl)) dX2_isAbove_266
  · refine lv_lload hx hb dX2_isAbove_88 (lv_at hl 1 rfl) ?_
    refine lv_iload_n hx hb dX2_isAbove_90 rfl (lv_at hl 7 rfl) ?_
    refine lv_i2l hx hb dX2_isAbove_91 rfl ?_
    refine W.lcmp hx hb dX2_isAbove_92 ?_
    refine lv_if_gt (tgt := 118) hx hb dX2_isAbove_93 (by decide) (fun c_93 => ?_) (fun c_93 => ?_)
    · refine lv_iconst (v := ((1 : Int32))) hx hb dX2_isAbove_118 (by decide) ?_
      refine lv_goto (tgt := 123) hx hb dX2_isAbove_119 (by decide) ?_
      exact kr_z (()) hx hb hr hlocks hK hP hD hS (rfl) (by unfold isAb; first | (rw [if_pos c_85, if_pos c_93]; rfl) | (rw [if_pos c_85, if_neg c_93, if_neg c_101]; rfl) | (rw [if_pos c_85, if_neg c_93, if_pos c_101, if_pos c_108]; rfl) | (rw [if_pos c_85, if_neg c_93, if_pos c_101, if_neg c_108, if_pos c_115]; rfl) | (rw [if_pos c_85, if_neg c_93, if_pos c_101, if_neg c_108, if_neg c_115]; rfl)) dX2_isAbove_123
    · refine lv_lload hx hb dX2_isAbove_96 (lv_at hl 1 rfl) ?_
      refine lv_iload_n hx hb dX2_isAbove_98 rfl (lv_at hl 7 rfl) ?_
      refine lv_i2l hx hb dX2_isAbove_99 rfl ?_
      refine W.lcmp hx hb dX2_isAbove_100 ?_
      refine lv_if_ne (tgt := 122) hx hb dX2_isAbove_101 (by decide) (fun c_101 => ?_) (fun c_101 => ?_)
      · refine lv_iconst (v := ((0 : Int32))) hx hb dX2_isAbove_122 (by decide) ?_
        exact kr_z (()) hx hb hr hlocks hK hP hD hS (rfl) (by unfold isAb; first | (rw [if_pos c_85, if_pos c_93]; rfl) | (rw [if_pos c_85, if_neg c_93, if_neg c_101]; rfl) | (rw [if_pos c_85, if_neg c_93, if_pos c_101, if_pos c_108]; rfl) | (rw [if_pos c_85, if_neg c_93, if_pos c_101, if_neg c_108, if_pos c_115]; rfl) | (rw [if_pos c_85, if_neg c_93, if_pos c_101, if_neg c_108, if_neg c_115]; rfl)) dX2_isAbove_123
      · refine lv_lload hx hb dX2_isAbove_104 (lv_at hl 0 rfl) ?_
        refine lv_lconst (v := 0) hx hb dX2_isAbove_106 (by decide) ?_
        refine W.lcmp hx hb dX2_isAbove_107 ?_
        refine lv_if_gt (tgt := 118) hx hb dX2_isAbove_108 (by decide) (fun c_108 => ?_) (fun c_108 => ?_)
        · refine lv_iconst (v := ((1 : Int32))) hx hb dX2_isAbove_118 (by decide) ?_
          refine lv_goto (tgt := 123) hx hb dX2_isAbove_119 (by decide) ?_
          exact kr_z (()) hx hb hr hlocks hK hP hD hS (rfl) (by unfold isAb; first | (rw [if_pos c_85, if_pos c_93]; rfl) | (rw [if_pos c_85, if_neg c_93, if_neg c_101]; rfl) | (rw [if_pos c_85, if_neg c_93, if_pos c_101, if_pos c_108]; rfl) | (rw [if_pos c_85, if_neg c_93, if_pos c_101, if_neg c_108, if_pos c_115]; rfl) | (rw [if_pos c_85, if_neg c_93, if_pos c_101, if_neg c_108, if_neg c_115]; rfl)) dX2_isAbove_123
        · refine lv_lload hx hb dX2_isAbove_111 (lv_at hl 2 rfl) ?_
          refine lv_lconst (v := 0) hx hb dX2_isAbove_113 (by decide) ?_
          refine W.lcmp hx hb dX2_isAbove_114 ?_
          refine lv_if_le (tgt := 122) hx hb dX2_isAbove_115 (by decide) (fun c_115 => ?_) (fun c_115 => ?_)
          · refine lv_iconst (v := ((0 : Int32))) hx hb dX2_isAbove_122 (by decide) ?_
            exact kr_z (()) hx hb hr hlocks hK hP hD hS (rfl) (by unfold isAb; first | (rw [if_pos c_85, if_pos c_93]; rfl) | (rw [if_pos c_85, if_neg c_93, if_neg c_101]; rfl) | (rw [if_pos c_85, if_neg c_93, if_pos c_101, if_pos c_108]; rfl) | (rw [if_pos c_85, if_neg c_93, if_pos c_101, if_neg c_108, if_pos c_115]; rfl) | (rw [if_pos c_85, if_neg c_93, if_pos c_101, if_neg c_108, if_neg c_115]; rfl)) dX2_isAbove_123
          · refine lv_iconst (v := ((1 : Int32))) hx hb dX2_isAbove_118 (by decide) ?_
            refine lv_goto (tgt := 123) hx hb dX2_isAbove_119 (by decide) ?_
            exact kr_z (()) hx hb hr hlocks hK hP hD hS (rfl) (by unfold isAb; first | (rw [if_pos c_85, if_pos c_93]; rfl) | (rw [if_pos c_85, if_neg c_93, if_neg c_101]; rfl) | (rw [if_pos c_85, if_neg c_93, if_pos c_101, if_pos c_108]; rfl) | (rw [if_pos c_85, if_neg c_93, if_pos c_101, if_neg c_108, if_pos c_115]; rfl) | (rw [if_pos c_85, if_neg c_93, if_pos c_101, if_neg c_108, if_neg c_115]; rfl)) dX2_isAbove_123

set_option maxHeartbeats 4000000 in
set_option maxRecDepth 100000 in
theorem m_root (l : Launch) (D : va_G) (A : Nat → Prop) (r : Nat → Nat) (cI cJ : ClassId) (ws : va_W) (p0 : Int32) (k : Int32) : Ki (S := Unit) l yX2_root wsX2_root { frames := 1, cells := 0, slots := 0, locals := 49 } D vwCl [(cI, .int), (cJ, .long)] A [] [.int p0, .int k] ws (fun r _ => r = ((mr (p0) (k) 36).toInt32)) (fun _ => ws) := by
  refine Met.ofW (cc := cX2_root) (maxL := 7) (ret := (some .int)) (by decide) rfl ?_
  intro p e s m args below meth c s₁ B hml hv
  obtain ⟨rfl, hP, hK, hD, hZ⟩ := hv
  have hx := B.exec
  have hb := B.bytes
  have hr := B.returns
  have hts := atoms_spec (ws := wsX2_root) B.pre
  have hown : s.vm.findClass RX2 = some m.cls := findClass_of_methodNamed B.named
  have hlocks := B.notSynchronized
  have hS : va_S A s.heap s.heap [] := va_S.rf
  have hl := lv_entry ([.int p0, .int k]) (n := 7) (Nat.le_of_ble_eq_true rfl)
  rw [lg_entry_eq]
  generalize (lg_sl ([.int p0, .int k]) ++ List.replicate (7 - (lg_sl ([.int p0, .int k])).length) Slot.unset).toArray = ls at hl ⊢
  have hl : lv_has ls 7 [(0, .int p0), (1, .int k)] := hl
  refine lv_lconst (v := 0) hx hb dX2_root_0 (by decide) ?_
  refine lv_lstore_n (lv' := [(2, .long ((0 : Int64))), (0, .int p0), (1, .int k)]) hx hb dX2_root_1 rfl hl (by decide) rfl (fun ls hl => ?_)
  refine lv_bipush (v := (sr 0)) hx hb dX2_root_2 (by decide) ?_
  refine lv_istore (lv' := [(4, .int (sr 0)), (2, .long ((0 : Int64))), (0, .int p0), (1, .int k)]) hx hb dX2_root_4 hl (by decide) rfl (fun ls hl => ?_)
  refine kp_lp (hd := 6) (nn := 36) (fun (i : Nat) (H : Heap) (locs : List Loc) (ls : Array Slot) => va_P D vwCl ws H ∧ va_D A ws ∧ va_S A s.heap H locs ∧ lv_has ls 7 [(0, .int p0), (1, .int k), (2, .long (mr p0 k i)), (4, .int (sr i))]) ?_ 0 (by omega) _ _ _ ⟨hP, hD, hS, (lv_sub hl [2, 3, 1, 0] rfl)⟩
  intro i hiN H locs ls hI ih
  obtain ⟨hP, hD, hS, hl⟩ := hI
  refine lv_iload hx hb dX2_root_6 (lv_at hl 3 rfl) ?_
  refine lv_if_lt (tgt := 38) hx hb dX2_root_8 (by decide) (fun c_8 => ?_) (fun c_8 => ?_)
  · have e9 : 36 = i := (sr_lt hiN c_8).symm
    subst e9
    refine lv_lload_n hx hb dX2_root_38 rfl (lv_at hl 2 rfl) ?_
    refine lv_l2i hx hb dX2_root_39 rfl ?_
    exact kr_i (()) hx hb hr hlocks hK hP hD hS (rfl) dX2_root_40
  · have hlt : i < 36 := sr_nlt hiN c_8
    have hl : lv_has ls 7 [(0, .int p0), (1, .int k), (2, .long (mr p0 k i)), (4, .int (nI (35 - i)))] := by rw [← sr_n hlt]; exact hl
    refine lv_lload_n hx hb dX2_root_11 rfl (lv_at hl 2 rfl) ?_
    refine lv_lconst (v := 1) hx hb dX2_root_12 (by decide) ?_
    refine lv_iload hx hb dX2_root_13 (lv_at hl 3 rfl) ?_
    refine lv_lshl hx hb dX2_root_15 rfl ?_
    refine lv_lor hx hb dX2_root_16 ?_
    refine kp_l (y := (mt p0 k i)) (rfl) ?_
    refine lv_lstore (lv' := [(5, .long (mt p0 k i)), (0, .int p0), (1, .int k), (2, .long (mr p0 k i)), (4, .int (nI (35 - i)))]) hx hb dX2_root_17 hl (by decide) rfl (fun ls hl => ?_)
    refine lv_lload hx hb dX2_root_19 (lv_at hl 0 rfl) ?_
    refine lv_iload_n hx hb dX2_root_21 rfl (lv_at hl 1 rfl) ?_
    refine lv_iload_n hx hb dX2_root_22 rfl (lv_at hl 2 rfl) ?_
    refine kcs_i (As := [.long (mt p0 k i), .int p0, .int k]) (rest := []) ⟨hx, hb, hml, hown, hts⟩ (m_isAbove l D A r cI cJ ws ((mt p0 k i)) ((p0)) ((k))) (cwS 3 hts (gMS (List.mem_of_getElem? (i := 14) rfl) (List.mem_of_getElem? (i := 15) rfl) (List.mem_of_getElem? (i := 0) rfl) (List.mem_of_getElem? (i := 16) rfl)) rfl rfl rfl (by decide +kernel) ⟨Nat.le_of_ble_eq_true rfl, Nat.le_of_ble_eq_true rfl⟩) hK hP hD hS hZ rfl hl.1 rfl (Nat.le_of_ble_eq_true rfl) ⟨Nat.zero_le _, Nat.zero_le _⟩ dX2_root_23 (fun r_1 _ H locs hw hP hD hS => ?_)
    have hw : r_1 = (bz (isAb (mt p0 k i) (p0) (k))) := hw
    subst hw
    have hP : va_P D vwCl ws H := hP
    have hD : va_D A ws := hD
    refine lv_if_ne (tgt := 32) hx hb dX2_root_26 (by decide) (fun c_26 => ?_) (fun c_26 => ?_)
    · have c_26 : (isAb (mt p0 k i) (p0) (k)) = true := bz_1 c_26
      have hl : lv_has ls 7 [(5, .long (mt p0 k i)), (0, .int p0), (1, .int k), (2, .long (mr p0 k (i + 1))), (4, .int (nI (35 - i)))] := by rw [mr_t c_26]; exact hl
      refine lv_iinc (v := (sr (i + 1))) (lv' := [(4, .int (sr (i + 1))), (5, .long (mt p0 k i)), (0, .int p0), (1, .int k), (2, .long (mr p0 k (i + 1)))]) hx hb dX2_root_32 hl (k := 4) rfl (sr_s hlt) (by decide) rfl (fun ls hl => ?_)
      refine lv_goto (tgt := 6) hx hb dX2_root_35 (by decide) ?_
      exact ih hlt _ _ _ ⟨hP, hD, hS, (lv_sub hl [2, 3, 4, 0] rfl)⟩
    · have c_26 : (isAb (mt p0 k i) (p0) (k)) = false := bz_0 c_26
      refine lv_lload hx hb dX2_root_29 (lv_at hl 0 rfl) ?_
      refine kp_l (y := (mr p0 k (i + 1))) ((mr_f c_26).symm) ?_
      refine lv_lstore_n (lv' := [(2, .long (mr p0 k (i + 1))), (5, .long (mt p0 k i)), (0, .int p0), (1, .int k), (4, .int (nI (35 - i)))]) hx hb dX2_root_31 rfl hl (by decide) rfl (fun ls hl => ?_)
      refine lv_iinc (v := (sr (i + 1))) (lv' := [(4, .int (sr (i + 1))), (2, .long (mr p0 k (i + 1))), (5, .long (mt p0 k i)), (0, .int p0), (1, .int k)]) hx hb dX2_root_32 hl (k := 4) rfl (sr_s hlt) (by decide) rfl (fun ls hl => ?_)
      refine lv_goto (tgt := 6) hx hb dX2_root_35 (by decide) ?_
      exact ih hlt _ _ _ ⟨hP, hD, hS, (lv_sub hl [3, 4, 1, 0] rfl)⟩

set_option maxHeartbeats 4000000 in
set_option maxRecDepth 100000 in
theorem m_primes (l : Launch) (D : va_G) (A : Nat → Prop) (r : Nat → Nat) (cI cJ : ClassId) (hz tl lv mn vs cb : Nat) (hs su sc ro be tp bs : Nat → Int32) (sz : Nat → Nat) (lw mi : Nat → Int64) : Kv (S := ((Nat → Int32) × (Nat → Int32))) l yX2_primes wsX2_primes { frames := 2, cells := 0, slots := 0, locals := 75 } D vwCl [(cI, .int), (cJ, .long)] A [] [.ref (r 0)] (wm r cI cJ hz tl lv mn vs cb hs su sc ro be tp bs sz lw mi) (fun u => (∀ j, j < 64 → u.1 j = rwv j) ∧ (∀ j, j < 8 → u.2 j = fsv j)) (fun u => (wm r cI cJ hz tl lv mn vs cb hs su sc u.1 u.2 tp bs sz lw mi)) := by
  refine Met.ofW (cc := cX2_primes) (maxL := 5) (ret := none) (by decide) rfl ?_
  intro p e s m args below meth c s₁ B hml hv
  obtain ⟨rfl, hP, hK, hD, hZ⟩ := hv
  have hx := B.exec
  have hb := B.bytes
  have hr := B.returns
  have hts := atoms_spec (ws := wsX2_primes) B.pre
  have hown : s.vm.findClass RX2 = some m.cls := findClass_of_methodNamed B.named
  have hlocks := B.notSynchronized
  have hS : va_S A s.heap s.heap [] := va_S.rf
  have hin_2 : ∀ w ∈ u_ws RX2 TX2 16, w ∈ wsX2_primes := fun w h => List.mem_cons_of_mem _ (List.mem_append_right _ h)
  have lk_1 := hts (.fieldLink RX2 1 "RootDeskModel" "begins" "[I") (inM (List.mem_of_getElem? (i := 24) rfl))
  have lk_11 := hts (.fieldLink RX2 11 "RootDeskModel" "rounds" "[I") (inM (List.mem_of_getElem? (i := 23) rfl))
  have hl := lv_entry ([.ref (r 0)]) (n := 5) (Nat.le_of_ble_eq_true rfl)
  rw [lg_entry_eq]
  generalize (lg_sl ([.ref (r 0)]) ++ List.replicate (5 - (lg_sl ([.ref (r 0)])).length) Slot.unset).toArray = ls at hl ⊢
  have hl : lv_has ls 5 [(0, .ref (r 0))] := hl
  refine lv_iconst (v := (nI (0))) hx hb dX2_primes_0 (by decide) ?_
  refine lv_istore_n (lv' := [(1, .int (nI 0)), (0, .ref (r 0))]) hx hb dX2_primes_1 rfl hl (by decide) rfl (fun ls hl => ?_)
  refine lv_iconst (v := (nI (2))) hx hb dX2_primes_2 (by decide) ?_
  refine lv_istore_n (lv' := [(2, .int (nI 2)), (1, .int (nI 0)), (0, .ref (r 0))]) hx hb dX2_primes_3 rfl hl (by decide) rfl (fun ls hl => ?_)
  refine kp_lp (hd := 4) (nn := 310) (fun (i : Nat) (H : Heap) (locs : List Loc) (ls : Array Slot) => ∃ (ro1 : Nat → Int32), ∃ (be1 : Nat → Int32), (∀ j, j < fnd i → ro1 j = rwv j) ∧ (∀ j, j < fnd i → j < 8 → be1 j = fsv j) ∧ va_P D vwCl (wm r cI cJ hz tl lv mn vs cb hs su sc ro1 be1 tp bs sz lw mi) H ∧ va_D A (wm r cI cJ hz tl lv mn vs cb hs su sc ro1 be1 tp bs sz lw mi) ∧ va_S A s.heap H locs ∧ lv_has ls 5 [(0, .ref (r 0)), (1, .int (nI (fnd i))), (2, .int (nI (i + 2)))]) ?_ 0 (by omega) _ _ _ ⟨ro, be, fun j hj => absurd hj (Nat.not_lt_zero j), fun j hj => absurd hj (Nat.not_lt_zero j), hP, hD, hS, (lv_sub hl [2, 1, 0] rfl)⟩
  intro i hiN H locs ls hI ih
  obtain ⟨ro1, be1, hI_0, hI_1, hP, hD, hS, hl⟩ := hI
  have hf := fnd_le hiN
  refine lv_iload_n hx hb dX2_primes_4 rfl (lv_at hl 1 rfl) ?_
  refine lv_bipush (v := (nI (64))) hx hb dX2_primes_5 (by decide) ?_
  refine lv_icmp_ge (tgt := 92) hx hb dX2_primes_7 (by decide) (fun c_7 => ?_) (fun c_7 => ?_)
  · have c_7 : 64 ≤ (fnd i) := kn_le c_7 (by omega) (by omega)
    have e8 : i = 310 := fnd_at hiN c_7
    have e9 : 310 = i := e8.symm
    subst e9
    exact kr_v ((ro1, be1)) hx hb hr hlocks hK hP hD hS (⟨fun j hj => hI_0 j (by rw [fnd_end]; exact hj), fun j hj => hI_1 j (by rw [fnd_end]; omega) hj⟩) dX2_primes_92
  · have c_7 : (fnd i) < 64 := kn_nle c_7 (by omega) (by omega)
    have hlt : i < 310 := by
      rcases Nat.lt_or_eq_of_le hiN with z | z
      · exact z
      · rw [z, fnd_end] at c_7
        omega
    refine lv_iconst (v := (nI (1))) hx hb dX2_primes_10 (by decide) ?_
    refine kp_i (y := (bz (ipr (i + 2) 0))) (rfl) ?_
    refine lv_istore_n (lv' := [(3, .int (bz (ipr (i + 2) 0))), (0, .ref (r 0)), (1, .int (nI (fnd i))), (2, .int (nI (i + 2)))]) hx hb dX2_primes_11 rfl hl (by decide) rfl (fun ls hl => ?_)
    refine lv_iconst (v := (nI (2))) hx hb dX2_primes_12 (by decide) ?_
    refine lv_istore (lv' := [(4, .int (nI 2)), (3, .int (bz (ipr (i + 2) 0))), (0, .ref (r 0)), (1, .int (nI (fnd i))), (2, .int (nI (i + 2)))]) hx hb dX2_primes_13 hl (by decide) rfl (fun ls hl => ?_)
    refine kp_lp (hd := 15) (nn := sqf (i + 2)) (fun (q : Nat) (H : Heap) (locs : List Loc) (ls : Array Slot) => va_P D vwCl (wm r cI cJ hz tl lv mn vs cb hs su sc ro1 be1 tp bs sz lw mi) H ∧ va_D A (wm r cI cJ hz tl lv mn vs cb hs su sc ro1 be1 tp bs sz lw mi) ∧ va_S A s.heap H locs ∧ lv_has ls 5 [(0, .ref (r 0)), (1, .int (nI (fnd i))), (2, .int (nI (i + 2))), (3, .int (bz (ipr (i + 2) q))), (4, .int (nI (q + 2)))]) ?_ 0 (by omega) _ _ _ ⟨hP, hD, hS, (lv_sub hl [2, 3, 4, 1, 0] rfl)⟩
    intro q hqN H locs ls hI ih_q
    obtain ⟨hP, hD, hS, hl⟩ := hI
    have hs17 := (sq_ok (i + 2) (by omega)).2.1
    have hqq : (q + 2) * (q + 2) ≤ 19 * 19 := Nat.mul_le_mul (by omega) (by omega)
    refine lv_iload hx hb dX2_primes_15 (lv_at hl 4 rfl) ?_
    refine lv_iload hx hb dX2_primes_17 (lv_at hl 4 rfl) ?_
    refine lv_imul hx hb dX2_primes_19 ?_
    refine kp_i (pk_mul _ _) ?_
    refine lv_iload_n hx hb dX2_primes_20 rfl (lv_at hl 2 rfl) ?_
    refine lv_icmp_gt (tgt := 47) hx hb dX2_primes_21 (by decide) (fun c_21 => ?_) (fun c_21 => ?_)
    · have c_21 : (i + 2) < ((q + 2) * (q + 2)) := kn_lt c_21 (by omega) (by omega)
      have e9 : sqf (i + 2) = q := (sq_at (by omega) hqN c_21).symm
      subst e9
      refine lv_iload_n hx hb dX2_primes_47 rfl (lv_at hl 3 rfl) ?_
      refine lv_if_ne (tgt := 54) hx hb dX2_primes_48 (by decide) (fun c_48 => ?_) (fun c_48 => ?_)
      · have c_48 : (ipr (i + 2) (sqf (i + 2))) = true := bz_1 c_48
        refine lv_iload_n hx hb dX2_primes_54 rfl (lv_at hl 1 rfl) ?_
        refine lv_bipush (v := (nI (8))) hx hb dX2_primes_55 (by decide) ?_
        refine lv_icmp_ge (tgt := 71) hx hb dX2_primes_57 (by decide) (fun c_57 => ?_) (fun c_57 => ?_)
        · have c_57 : 8 ≤ (fnd i) := kn_le c_57 (by omega) (by omega)
          refine lv_aload_n hx hb dX2_primes_71 rfl (lv_at hl 0 rfl) ?_
          refine va_get (D := D) (ci := 2) (v := .ref (r 4)) (C := RX2) (T := TX2) (N := 16) hx hb hts hin_2 hown hK hP 0 rfl rfl 4 (by decide) lk_11 (fun _ h9 => h9) rfl dX2_primes_72 ?_
          refine lv_iload_n hx hb dX2_primes_75 rfl (lv_at hl 1 rfl) ?_
          refine lv_iload_n hx hb dX2_primes_76 rfl (lv_at hl 2 rfl) ?_
          refine lv_iconst (v := ((3 : Int32))) hx hb dX2_primes_77 (by decide) ?_
          refine kcs_i (As := [.int (nI (i + 2)), .int ((3 : Int32))]) (rest := [.int (nI (fnd i)), .ref (r 4)]) ⟨hx, hb, hml, hown, hts⟩ (m_root l D A r cI cJ (wm r cI cJ hz tl lv mn vs cb hs su sc ro1 be1 tp bs sz lw mi) ((nI (i + 2))) (((3 : Int32)))) (cwS 2 hts (gMS (List.mem_of_getElem? (i := 11) rfl) (List.mem_of_getElem? (i := 12) rfl) (List.mem_of_getElem? (i := 0) rfl) (List.mem_of_getElem? (i := 13) rfl)) rfl rfl rfl (by decide +kernel) ⟨Nat.le_of_ble_eq_true rfl, Nat.le_of_ble_eq_true rfl⟩) hK hP hD hS hZ rfl hl.1 rfl (Nat.le_of_ble_eq_true rfl) ⟨Nat.zero_le _, Nat.zero_le _⟩ dX2_primes_78 (fun r_1 _ H locs hw hP hD hS => ?_)
          have hw : r_1 = ((mr (nI (i + 2)) ((3 : Int32)) 36).toInt32) := hw
          subst hw
          have hP : va_P D vwCl (wm r cI cJ hz tl lv mn vs cb hs su sc ro1 be1 tp bs sz lw mi) H := hP
          have hD : va_D A (wm r cI cJ hz tl lv mn vs cb hs su sc ro1 be1 tp bs sz lw mi) := hD
          refine kb_iast hx hb hK hP hD hS 4 0 rfl rfl (fnd i) (rfl) (by omega) (by decide) dX2_primes_81 (fun H locs hP hD hS => ?_)
          have hP : va_P D vwCl (wm r cI cJ hz tl lv mn vs cb hs su sc (upd ro1 (fnd i) (((mr (nI (i + 2)) ((3 : Int32)) 36).toInt32))) be1 tp bs sz lw mi) H := hP
          have hD : va_D A (wm r cI cJ hz tl lv mn vs cb hs su sc (upd ro1 (fnd i) (((mr (nI (i + 2)) ((3 : Int32)) 36).toInt32))) be1 tp bs sz lw mi) := hD
          refine lv_iload_n hx hb dX2_primes_82 rfl (lv_at hl 1 rfl) ?_
          refine lv_iconst (v := (nI (1))) hx hb dX2_primes_83 (by decide) ?_
          refine lv_iadd hx hb dX2_primes_84 ?_
          refine kp_i (y := (nI (fnd (i + 1)))) (by rw [fnd_t c_48]; exact nI_add _ _) ?_
          refine lv_istore_n (lv' := [(1, .int (nI (fnd (i + 1)))), (0, .ref (r 0)), (2, .int (nI (i + 2))), (3, .int (bz (ipr (i + 2) (sqf (i + 2))))), (4, .int (nI ((sqf (i + 2)) + 2)))]) hx hb dX2_primes_85 rfl hl (by decide) rfl (fun ls hl => ?_)
          refine lv_iinc (v := (nI ((i + 2) + 1))) (lv' := [(2, .int (nI ((i + 2) + 1))), (1, .int (nI (fnd (i + 1)))), (0, .ref (r 0)), (3, .int (bz (ipr (i + 2) (sqf (i + 2))))), (4, .int (nI ((sqf (i + 2)) + 2)))]) hx hb dX2_primes_86 hl (k := 2) rfl (kn_inc _ _ 1 rfl) (by decide) rfl (fun ls hl => ?_)
          refine lv_goto (tgt := 4) hx hb dX2_primes_89 (by decide) ?_
          exact ih hlt _ _ _ ⟨upd ro1 (fnd i) (((mr (nI (i + 2)) ((3 : Int32)) 36).toInt32)), be1, by first | exact (by rw [fnd_f c_48]; exact hI_0) | exact (by rw [fnd_t c_48]; exact upd_s hI_0 (r3_at hlt c_48)), by first | exact (by rw [fnd_f c_48]; exact hI_1) | exact (by rw [fnd_t c_48]; exact be_k hI_1 c_57) | exact (by rw [fnd_t c_48]; exact be_s hI_1 (r2_at hlt c_48 c_57)), hP, hD, hS, (lv_sub hl [2, 1, 0] rfl)⟩
        · have c_57 : (fnd i) < 8 := kn_nle c_57 (by omega) (by omega)
          refine lv_aload_n hx hb dX2_primes_60 rfl (lv_at hl 0 rfl) ?_
          refine va_get (D := D) (ci := 2) (v := .ref (r 5)) (C := RX2) (T := TX2) (N := 16) hx hb hts hin_2 hown hK hP 0 rfl rfl 5 (by decide) lk_1 (fun _ h9 => h9) rfl dX2_primes_61 ?_
          refine lv_iload_n hx hb dX2_primes_64 rfl (lv_at hl 1 rfl) ?_
          refine lv_iload_n hx hb dX2_primes_65 rfl (lv_at hl 2 rfl) ?_
          refine lv_iconst (v := ((2 : Int32))) hx hb dX2_primes_66 (by decide) ?_
          refine kcs_i (As := [.int (nI (i + 2)), .int ((2 : Int32))]) (rest := [.int (nI (fnd i)), .ref (r 5)]) ⟨hx, hb, hml, hown, hts⟩ (m_root l D A r cI cJ (wm r cI cJ hz tl lv mn vs cb hs su sc ro1 be1 tp bs sz lw mi) ((nI (i + 2))) (((2 : Int32)))) (cwS 2 hts (gMS (List.mem_of_getElem? (i := 11) rfl) (List.mem_of_getElem? (i := 12) rfl) (List.mem_of_getElem? (i := 0) rfl) (List.mem_of_getElem? (i := 13) rfl)) rfl rfl rfl (by decide +kernel) ⟨Nat.le_of_ble_eq_true rfl, Nat.le_of_ble_eq_true rfl⟩) hK hP hD hS hZ rfl hl.1 rfl (Nat.le_of_ble_eq_true rfl) ⟨Nat.zero_le _, Nat.zero_le _⟩ dX2_primes_67 (fun r_2 _ H locs hw hP hD hS => ?_)
          have hw : r_2 = ((mr (nI (i + 2)) ((2 : Int32)) 36).toInt32) := hw
          subst hw
          have hP : va_P D vwCl (wm r cI cJ hz tl lv mn vs cb hs su sc ro1 be1 tp bs sz lw mi) H := hP
          have hD : va_D A (wm r cI cJ hz tl lv mn vs cb hs su sc ro1 be1 tp bs sz lw mi) := hD
          refine kb_iast hx hb hK hP hD hS 5 0 rfl rfl (fnd i) (rfl) (by omega) (by decide) dX2_primes_70 (fun H locs hP hD hS => ?_)
          have hP : va_P D vwCl (wm r cI cJ hz tl lv mn vs cb hs su sc ro1 (upd be1 (fnd i) (((mr (nI (i + 2)) ((2 : Int32)) 36).toInt32))) tp bs sz lw mi) H := hP
          have hD : va_D A (wm r cI cJ hz tl lv mn vs cb hs su sc ro1 (upd be1 (fnd i) (((mr (nI (i + 2)) ((2 : Int32)) 36).toInt32))) tp bs sz lw mi) := hD
          refine lv_aload_n hx hb dX2_primes_71 rfl (lv_at hl 0 rfl) ?_
          refine va_get (D := D) (ci := 2) (v := .ref (r 4)) (C := RX2) (T := TX2) (N := 16) hx hb hts hin_2 hown hK hP 0 rfl rfl 4 (by decide) lk_11 (fun _ h9 => h9) rfl dX2_primes_72 ?_
          refine lv_iload_n hx hb dX2_primes_75 rfl (lv_at hl 1 rfl) ?_
          refine lv_iload_n hx hb dX2_primes_76 rfl (lv_at hl 2 rfl) ?_
          refine lv_iconst (v := ((3 : Int32))) hx hb dX2_primes_77 (by decide) ?_
          refine kcs_i (As := [.int (nI (i + 2)), .int ((3 : Int32))]) (rest := [.int (nI (fnd i)), .ref (r 4)]) ⟨hx, hb, hml, hown, hts⟩ (m_root l D A r cI cJ (wm r cI cJ hz tl lv mn vs cb hs su sc ro1 (upd be1 (fnd i) (((mr (nI (i + 2)) ((2 : Int32)) 36).toInt32))) tp bs sz lw mi) ((nI (i + 2))) (((3 : Int32)))) (cwS 2 hts (gMS (List.mem_of_getElem? (i := 11) rfl) (List.mem_of_getElem? (i := 12) rfl) (List.mem_of_getElem? (i := 0) rfl) (List.mem_of_getElem? (i := 13) rfl)) rfl rfl rfl (by decide +kernel) ⟨Nat.le_of_ble_eq_true rfl, Nat.le_of_ble_eq_true rfl⟩) hK hP hD hS hZ rfl hl.1 rfl (Nat.le_of_ble_eq_true rfl) ⟨Nat.zero_le _, Nat.zero_le _⟩ dX2_primes_78 (fun r_3 _ H locs hw hP hD hS => ?_)
          have hw : r_3 = ((mr (nI (i + 2)) ((3 : Int32)) 36).toInt32) := hw
          subst hw
          have hP : va_P D vwCl (wm r cI cJ hz tl lv mn vs cb hs su sc ro1 (upd be1 (fnd i) (((mr (nI (i + 2)) ((2 : Int32)) 36).toInt32))) tp bs sz lw mi) H := hP
          have hD : va_D A (wm r cI cJ hz tl lv mn vs cb hs su sc ro1 (upd be1 (fnd i) (((mr (nI (i + 2)) ((2 : Int32)) 36).toInt32))) tp bs sz lw mi) := hD
          refine kb_iast hx hb hK hP hD hS 4 0 rfl rfl (fnd i) (rfl) (by omega) (by decide) dX2_primes_81 (fun H locs hP hD hS => ?_)
          have hP : va_P D vwCl (wm r cI cJ hz tl lv mn vs cb hs su sc (upd ro1 (fnd i) (((mr (nI (i + 2)) ((3 : Int32)) 36).toInt32))) (upd be1 (fnd i) (((mr (nI (i + 2)) ((2 : Int32)) 36).toInt32))) tp bs sz lw mi) H := hP
          have hD : va_D A (wm r cI cJ hz tl lv mn vs cb hs su sc (upd ro1 (fnd i) (((mr (nI (i + 2)) ((3 : Int32)) 36).toInt32))) (upd be1 (fnd i) (((mr (nI (i + 2)) ((2 : Int32)) 36).toInt32))) tp bs sz lw mi) := hD
          refine lv_iload_n hx hb dX2_primes_82 rfl (lv_at hl 1 rfl) ?_
          refine lv_iconst (v := (nI (1))) hx hb dX2_primes_83 (by decide) ?_
          refine lv_iadd hx hb dX2_primes_84 ?_
          refine kp_i (y := (nI (fnd (i + 1)))) (by rw [fnd_t c_48]; exact nI_add _ _) ?_
          refine lv_istore_n (lv' := [(1, .int (nI (fnd (i + 1)))), (0, .ref (r 0)), (2, .int (nI (i + 2))), (3, .int (bz (ipr (i + 2) (sqf (i + 2))))), (4, .int (nI ((sqf (i + 2)) + 2)))]) hx hb dX2_primes_85 rfl hl (by decide) rfl (fun ls hl => ?_)
          refine lv_iinc (v := (nI ((i + 2) + 1))) (lv' := [(2, .int (nI ((i + 2) + 1))), (1, .int (nI (fnd (i + 1)))), (0, .ref (r 0)), (3, .int (bz (ipr (i + 2) (sqf (i + 2))))), (4, .int (nI ((sqf (i + 2)) + 2)))]) hx hb dX2_primes_86 hl (k := 2) rfl (kn_inc _ _ 1 rfl) (by decide) rfl (fun ls hl => ?_)
          refine lv_goto (tgt := 4) hx hb dX2_primes_89 (by decide) ?_
          exact ih hlt _ _ _ ⟨upd ro1 (fnd i) (((mr (nI (i + 2)) ((3 : Int32)) 36).toInt32)), upd be1 (fnd i) (((mr (nI (i + 2)) ((2 : Int32)) 36).toInt32)), by first | exact (by rw [fnd_f c_48]; exact hI_0) | exact (by rw [fnd_t c_48]; exact upd_s hI_0 (r3_at hlt c_48)), by first | exact (by rw [fnd_f c_48]; exact hI_1) | exact (by rw [fnd_t c_48]; exact be_k hI_1 c_57) | exact (by rw [fnd_t c_48]; exact be_s hI_1 (r2_at hlt c_48 c_57)), hP, hD, hS, (lv_sub hl [2, 1, 0] rfl)⟩
      · have c_48 : (ipr (i + 2) (sqf (i + 2))) = false := bz_0 c_48
        have hl : lv_has ls 5 [(0, .ref (r 0)), (1, .int (nI (fnd (i + 1)))), (2, .int (nI (i + 2))), (3, .int (bz (ipr (i + 2) (sqf (i + 2))))), (4, .int (nI ((sqf (i + 2)) + 2)))] := by rw [fnd_f c_48]; exact hl
        refine lv_goto (tgt := 86) hx hb dX2_primes_51 (by decide) ?_
        refine lv_iinc (v := (nI ((i + 2) + 1))) (lv' := [(2, .int (nI ((i + 2) + 1))), (0, .ref (r 0)), (1, .int (nI (fnd (i + 1)))), (3, .int (bz (ipr (i + 2) (sqf (i + 2))))), (4, .int (nI ((sqf (i + 2)) + 2)))]) hx hb dX2_primes_86 hl (k := 2) rfl (kn_inc _ _ 1 rfl) (by decide) rfl (fun ls hl => ?_)
        refine lv_goto (tgt := 4) hx hb dX2_primes_89 (by decide) ?_
        exact ih hlt _ _ _ ⟨ro1, be1, by first | exact (by rw [fnd_f c_48]; exact hI_0) | exact (by rw [fnd_t c_48]; exact upd_s hI_0 (r3_at hlt c_48)), by first | exact (by rw [fnd_f c_48]; exact hI_1) | exact (by rw [fnd_t c_48]; exact be_k hI_1 c_57) | exact (by rw [fnd_t c_48]; exact be_s hI_1 (r2_at hlt c_48 c_57)), hP, hD, hS, (lv_sub hl [1, 2, 0] rfl)⟩
    · have c_21 : ((q + 2) * (q + 2)) ≤ (i + 2) := kn_nlt c_21 (by omega) (by omega)
      have hltq : q < sqf (i + 2) := sq_nat (by omega) hqN c_21
      have hmd : (i + 2) % (q + 2) ≤ i + 2 := Nat.mod_le _ _
      refine lv_iload_n hx hb dX2_primes_24 rfl (lv_at hl 3 rfl) ?_
      refine lv_if_eq (tgt := 39) hx hb dX2_primes_25 (by decide) (fun c_25 => ?_) (fun c_25 => ?_)
      · have c_25 : (ipr (i + 2) q) = false := bz_0 c_25
        refine lv_iconst (v := (nI (0))) hx hb dX2_primes_39 (by decide) ?_
        refine kp_i (y := (bz (ipr (i + 2) (q + 1)))) (by first | exact ipr_b c_32 | exact ipr_a c_25) ?_
        refine lv_istore_n (lv' := [(3, .int (bz (ipr (i + 2) (q + 1)))), (0, .ref (r 0)), (1, .int (nI (fnd i))), (2, .int (nI (i + 2))), (4, .int (nI (q + 2)))]) hx hb dX2_primes_40 rfl hl (by decide) rfl (fun ls hl => ?_)
        refine lv_iinc (v := (nI ((q + 2) + 1))) (lv' := [(4, .int (nI ((q + 2) + 1))), (3, .int (bz (ipr (i + 2) (q + 1)))), (0, .ref (r 0)), (1, .int (nI (fnd i))), (2, .int (nI (i + 2)))]) hx hb dX2_primes_41 hl (k := 4) rfl (kn_inc _ _ 1 rfl) (by decide) rfl (fun ls hl => ?_)
        refine lv_goto (tgt := 15) hx hb dX2_primes_44 (by decide) ?_
        exact ih_q hltq _ _ _ ⟨hP, hD, hS, (lv_sub hl [2, 3, 4, 1, 0] rfl)⟩
      · have c_25 : (ipr (i + 2) q) = true := bz_1 c_25
        refine lv_iload_n hx hb dX2_primes_28 rfl (lv_at hl 2 rfl) ?_
        refine lv_iload hx hb dX2_primes_29 (lv_at hl 4 rfl) ?_
        refine lv_irem hx hb dX2_primes_31 (nI_ne0 (by omega) (by omega)) ?_
        refine kp_i (y := (nI ((i + 2) % (q + 2)))) (pk_rem (by omega) (by omega) (by omega)) ?_
        refine lv_if_eq (tgt := 39) hx hb dX2_primes_32 (by decide) (fun c_32 => ?_) (fun c_32 => ?_)
        · have c_32 : ((i + 2) % (q + 2)) = 0 := kn_eq0 c_32 (by omega)
          have c_32 : (i + 2) % (q + 2) = 0 := c_32
          refine lv_iconst (v := (nI (0))) hx hb dX2_primes_39 (by decide) ?_
          refine kp_i (y := (bz (ipr (i + 2) (q + 1)))) (by first | exact ipr_b c_32 | exact ipr_a c_25) ?_
          refine lv_istore_n (lv' := [(3, .int (bz (ipr (i + 2) (q + 1)))), (0, .ref (r 0)), (1, .int (nI (fnd i))), (2, .int (nI (i + 2))), (4, .int (nI (q + 2)))]) hx hb dX2_primes_40 rfl hl (by decide) rfl (fun ls hl => ?_)
          refine lv_iinc (v := (nI ((q + 2) + 1))) (lv' := [(4, .int (nI ((q + 2) + 1))), (3, .int (bz (ipr (i + 2) (q + 1)))), (0, .ref (r 0)), (1, .int (nI (fnd i))), (2, .int (nI (i + 2)))]) hx hb dX2_primes_41 hl (k := 4) rfl (kn_inc _ _ 1 rfl) (by decide) rfl (fun ls hl => ?_)
          refine lv_goto (tgt := 15) hx hb dX2_primes_44 (by decide) ?_
          exact ih_q hltq _ _ _ ⟨hP, hD, hS, (lv_sub hl [2, 3, 4, 1, 0] rfl)⟩
        · have c_32 : ((i + 2) % (q + 2)) ≠ 0 := kn_ne0 c_32 (by omega)
          refine lv_iconst (v := (nI (1))) hx hb dX2_primes_35 (by decide) ?_
          refine kp_i (y := (bz (ipr (i + 2) (q + 1)))) (ipr_1 c_25 c_32) ?_
          refine lv_goto (tgt := 40) hx hb dX2_primes_36 (by decide) ?_
          refine lv_istore_n (lv' := [(3, .int (bz (ipr (i + 2) (q + 1)))), (0, .ref (r 0)), (1, .int (nI (fnd i))), (2, .int (nI (i + 2))), (4, .int (nI (q + 2)))]) hx hb dX2_primes_40 rfl hl (by decide) rfl (fun ls hl => ?_)
          refine lv_iinc (v := (nI ((q + 2) + 1))) (lv' := [(4, .int (nI ((q + 2) + 1))), (3, .int (bz (ipr (i + 2) (q + 1)))), (0, .ref (r 0)), (1, .int (nI (fnd i))), (2, .int (nI (i + 2)))]) hx hb dX2_primes_41 hl (k := 4) rfl (kn_inc _ _ 1 rfl) (by decide) rfl (fun ls hl => ?_)
          refine lv_goto (tgt := 15) hx hb dX2_primes_44 (by decide) ?_
          exact ih_q hltq _ _ _ ⟨hP, hD, hS, (lv_sub hl [2, 3, 4, 1, 0] rfl)⟩
