set_option maxHeartbeats 4000000 in
set_option maxRecDepth 100000 in
theorem c_Y_drop (l : Launch) (ca : Nat → ClassId) (D : va_G) (M : zM) (sz : Nat) (a0 : Nat) (x1 : Int32) (post : Int32 → zM → Prop) : Met l y_Y_drop (Cond.code y_Y_drop prog_11_method_12_code 2 (some .boolean) :: zws) rm_Y_drop (zPre ca D zcl (ztys ca) [.ref a0, .int x1] M sz (w_Y_drop M a0 x1 post)) (va_Qi post (zB ca D zcl (ztys ca) (zA M sz)) (zA M sz)) 0 0 (zA M sz) := by
  refine z_met (cc := prog_11_method_12_code) (maxL := 2) (ret := (some .boolean)) (plainFor_of_name (by decide)) rfl (by simp [Value.category]) (Nat.le_of_ble_eq_true rfl) ?_
  intro p e s m args below meth c ls A hx hb hr hlk hml hts hown hnm hK hN hl hA0 hM hS hA h
  rw [← hA0]
  have hW : ∀ w ∈ zws, w.before args s = true := fun w hw => hts w (List.mem_cons_of_mem _ hw)
  have hl : zL ls 2 [(0, .ref a0), (1, .int x1)] := hl
  generalize hQ : MQ below (va_Qi post (zB ca D zcl (ztys ca) A) A) args s 0 0 A = Q
  have b_start : ∀ (M : zM) (H : Heap) (locs : List Loc) (ls : Array Slot) (a0 : Nat) (x1 : Int32), zL ls 2 [(0, .ref a0), (1, .int x1)] → zW ca D zcl A M H → va_S A s.heap H locs → w_Y_drop M a0 x1 post → W p l e rm_Y_drop s m args below meth c H locs 0 0 Q (F0 m 0 ls []) := by
    intro M H locs ls a0 x1 hl hM hS h
    unfold w_Y_drop at h
    refine lv_iload_n hx hb d_Y_drop_0 rfl (hl.at 1 rfl) ?_
    refine lv_iconst (v := (5 : Int32)) hx hb d_Y_drop_1 (by decide) ?_
    refine z_cti (mc := 0) (ms := 0) (va_runS (As := [.int x1, .int (5 : Int32)]) (rest := []) ⟨hx, hb, hml, hown, hW⟩ (c_Y_within l ca D M H.size x1 (5 : Int32) _) (cw_Y_within hW k_711 ⟨by decide, by decide⟩) (zPre_S hK hN hM h) rfl rfl hl.1.1 rfl (lv_room (Nat.le_of_ble_eq_true rfl)) d_Y_drop_2 ⟨by decide, by decide⟩) hM hS hA (fun r1 M2 H locs h hM hS => ?_)
    refine lv_if_eq (tgt := 17) hx hb d_Y_drop_5 rfl (fun c3 => ?_) (fun c3 => ?_)
    · replace h := h.1 c3
      refine lv_iconst (v := (0 : Int32)) hx hb d_Y_drop_17 (by decide) ?_
      refine W.widen (k := 0) (n := 0) (by decide) (by decide) ?_
      rw [← hQ]
      exact z_zret hx hb hr hlk rfl hK hM hS h d_Y_drop_18
    · replace h := h.2 c3
      refine lv_aload_n hx hb d_Y_drop_8 rfl (hl.at 0 rfl) ?_
      obtain ⟨t4, h⟩ := h
      refine z_getR hx hb hW in_9 hown hK hM t4 (by decide) rfl 0 (by decide) rfl (hW _ k_585) rfl d_Y_drop_9 ?_
      refine lv_iload_n hx hb d_Y_drop_12 rfl (hl.at 1 rfl) ?_
      obtain ⟨b5, hb6, h⟩ := h
      rw [hb6]
      obtain ⟨n8, t7, h⟩ := h
      obtain ⟨i9, h⟩ := h
      refine z_zald hx hb hK hM t7 1 rfl i9 d_Y_drop_13 ?_
      refine lv_if_ne (tgt := 19) hx hb d_Y_drop_14 rfl (fun c10 => ?_) (fun c10 => ?_)
      · replace h := h.2 c10
        refine lv_aload_n hx hb d_Y_drop_19 rfl (hl.at 0 rfl) ?_
        refine z_getR hx hb hW in_9 hown hK hM t4 (by decide) rfl 0 (by decide) rfl (hW _ k_585) rfl d_Y_drop_20 ?_
        refine lv_iload_n hx hb d_Y_drop_23 rfl (hl.at 1 rfl) ?_
        refine lv_iconst (v := (0 : Int32)) hx hb d_Y_drop_24 (by decide) ?_
        obtain ⟨b11, hb12, h⟩ := h
        rw [hb12]
        obtain ⟨n14, t13, h⟩ := h
        obtain ⟨i15, h⟩ := h
        refine z_zast hx hb hK hM hS t13 1 rfl i15 d_Y_drop_25 (fun H locs hM hS => ?_)
        obtain ⟨M16, e17⟩ : ∃ z, z = zwI M2 b11 x1.toNatClampNeg (vp_nar .boolean (0 : Int32)) := ⟨_, rfl⟩
        replace h := h M16 e17
        rw [← e17] at hM
        refine lv_iconst (v := (1 : Int32)) hx hb d_Y_drop_26 (by decide) ?_
        refine W.widen (k := 0) (n := 0) (by decide) (by decide) ?_
        rw [← hQ]
        exact z_zret hx hb hr hlk rfl hK hM hS h d_Y_drop_27
      · replace h := h.1 c10
        refine lv_iconst (v := (0 : Int32)) hx hb d_Y_drop_17 (by decide) ?_
        refine W.widen (k := 0) (n := 0) (by decide) (by decide) ?_
        rw [← hQ]
        exact z_zret hx hb hr hlk rfl hK hM hS h d_Y_drop_18
  exact b_start M s.heap [] ls a0 x1 hl hM hS h
set_option maxHeartbeats 4000000 in
set_option maxRecDepth 100000 in
theorem c_Y_field (l : Launch) (ca : Nat → ClassId) (D : va_G) (M : zM) (sz : Nat) (a0 : Nat) (x1 : Int32) (x2 : Int32) (x3 : Int32) (post : zM → Prop) : Met l y_Y_field (Cond.code y_Y_field prog_11_method_13_code 9 none :: zws) rm_Y_field (zPre ca D zcl (ztys ca) [.ref a0, .int x1, .int x2, .int x3] M sz (w_Y_field M a0 x1 x2 x3 post)) (va_Qv post (zB ca D zcl (ztys ca) (zA M sz)) (zA M sz)) 0 0 (zA M sz) := by
  refine z_met (cc := prog_11_method_13_code) (maxL := 9) (ret := none) (plainFor_of_name (by decide)) rfl (by simp [Value.category]) (Nat.le_of_ble_eq_true rfl) ?_
  intro p e s m args below meth c ls A hx hb hr hlk hml hts hown hnm hK hN hl hA0 hM hS hA h
  rw [← hA0]
  have hW : ∀ w ∈ zws, w.before args s = true := fun w hw => hts w (List.mem_cons_of_mem _ hw)
  have hl : zL ls 9 [(0, .ref a0), (1, .int x1), (2, .int x2), (3, .int x3)] := hl
  generalize hQ : MQ below (va_Qv post (zB ca D zcl (ztys ca) A) A) args s 0 0 A = Q
  have b_245 : ∀ (M : zM) (H : Heap) (locs : List Loc) (ls : Array Slot) (a0 : Nat) (x1 : Int32) (x2 : Int32) (x3 : Int32) (x4 : Int32) (x5 : Int32) (x6 : Int32) (x7 : Int32) (x8 : Int32), zL ls 9 [(0, .ref a0), (1, .int x1), (2, .int x2), (3, .int x3), (4, .int x4), (5, .int x5), (6, .int x6), (7, .int x7), (8, .int x8)] → zW ca D zcl A M H → va_S A s.heap H locs → w_Y_field_245 post M a0 x1 x2 x3 x4 x5 x6 x7 x8 → W p l e rm_Y_field s m args below meth c H locs 0 0 Q (F0 m 245 ls []) := by
    intro M H locs ls a0 x1 x2 x3 x4 x5 x6 x7 x8 hl hM hS h
    unfold w_Y_field_245 at h
    refine lv_aload_n hx hb d_Y_field_245 rfl (hl.at 0 rfl) ?_
    refine lv_dup hx hb d_Y_field_246 rfl ?_
    obtain ⟨t19, h⟩ := h
    refine z_getI hx hb hW in_9 hown hK hM t19 (by decide) rfl 30 (by decide) rfl (hW _ k_615) rfl d_Y_field_247 ?_
    refine lv_iconst (v := (1 : Int32)) hx hb d_Y_field_250 (by decide) ?_
    refine lv_iadd hx hb d_Y_field_251 ?_
    refine z_putI hx hb hW in_9 ty_9 tyok_9 nm_9 hown hK hM hS t19 (by decide) rfl 30 (by decide) rfl (hW _ k_615) rfl (Or.inl rfl) rfl rfl d_Y_field_252 (fun H locs hM hS => ?_)
    obtain ⟨M20, e21⟩ : ∃ z, z = zwI M a0 30 ((zI M a0 30) + (1 : Int32)) := ⟨_, rfl⟩
    replace h := h M20 e21
    rw [← e21] at hM
    rw [← hQ]
    exact z_vret hx hb hr hlk hK hM hS h d_Y_field_255
  have b_148 : ∀ (M : zM) (H : Heap) (locs : List Loc) (ls : Array Slot) (a0 : Nat) (x1 : Int32) (x2 : Int32) (x3 : Int32) (x4 : Int32) (x5 : Int32) (x6 : Int32) (x7 : Int32) (x8 : Int32), zL ls 9 [(0, .ref a0), (1, .int x1), (2, .int x2), (3, .int x3), (4, .int x4), (5, .int x5), (6, .int x6), (7, .int x7), (8, .int x8)] → zW ca D zcl A M H → va_S A s.heap H locs → w_Y_field_148 post M a0 x1 x2 x3 x4 x5 x6 x7 x8 → W p l e rm_Y_field s m args below meth c H locs 0 0 Q (F0 m 148 ls []) := by
    intro M H locs ls a0 x1 x2 x3 x4 x5 x6 x7 x8 hl hM hS h
    unfold w_Y_field_148 at h
    refine lv_aload_n hx hb d_Y_field_148 rfl (hl.at 0 rfl) ?_
    obtain ⟨t54, h⟩ := h
    refine z_getR hx hb hW in_9 hown hK hM t54 (by decide) rfl 20 (by decide) rfl (hW _ k_605) rfl d_Y_field_149 ?_
    refine lv_iconst (v := (3 : Int32)) hx hb d_Y_field_152 (by decide) ?_
    refine lv_iload_n hx hb d_Y_field_153 rfl (hl.at 1 rfl) ?_
    refine lv_imul hx hb d_Y_field_154 ?_
    refine lv_iload_n hx hb d_Y_field_155 rfl (hl.at 2 rfl) ?_
    refine lv_iadd hx hb d_Y_field_156 ?_
    refine lv_iload hx hb d_Y_field_157 (hl.at 6 rfl) ?_
    obtain ⟨b55, hb56, h⟩ := h
    rw [hb56]
    obtain ⟨n58, t57, h⟩ := h
    obtain ⟨i59, h⟩ := h
    refine z_iast hx hb hK hM hS t57 0 rfl i59 d_Y_field_159 (fun H locs hM hS => ?_)
    obtain ⟨M60, e61⟩ : ∃ z, z = zwI M b55 (((3 : Int32) * x1) + x2).toNatClampNeg x6 := ⟨_, rfl⟩
    replace h := h M60 e61
    rw [← e61] at hM
    refine lv_aload_n hx hb d_Y_field_160 rfl (hl.at 0 rfl) ?_
    refine lv_dup hx hb d_Y_field_161 rfl ?_
    have t62 : zT M60 a0 = some (9, 40) := by rw [e61]; exact t54
    refine z_getI hx hb hW in_9 hown hK hM t62 (by decide) rfl 31 (by decide) rfl (hW _ k_616) rfl d_Y_field_162 ?_
    refine lv_iconst (v := (1 : Int32)) hx hb d_Y_field_165 (by decide) ?_
    refine lv_iadd hx hb d_Y_field_166 ?_
    refine z_putI hx hb hW in_9 ty_9 tyok_9 nm_9 hown hK hM hS t62 (by decide) rfl 31 (by decide) rfl (hW _ k_616) rfl (Or.inl rfl) rfl rfl d_Y_field_167 (fun H locs hM hS => ?_)
    obtain ⟨M63, e64⟩ : ∃ z, z = zwI M60 a0 31 ((zI M60 a0 31) + (1 : Int32)) := ⟨_, rfl⟩
    replace h := h M63 e64
    rw [← e64] at hM
    refine lv_goto (tgt := 255) hx hb d_Y_field_170 rfl ?_
    rw [← hQ]
    exact z_vret hx hb hr hlk hK hM hS h d_Y_field_255
  have b_47 : ∀ (n : Nat) (M : zM) (H : Heap) (locs : List Loc) (ls : Array Slot) (a0 : Nat) (x1 : Int32) (x2 : Int32) (x3 : Int32) (x4 : Int32) (x5 : Int32) (x6 : Int32) (x7 : Int32), zL ls 9 [(0, .ref a0), (1, .int x1), (2, .int x2), (3, .int x3), (4, .int x4), (5, .int x5), (6, .int x6), (7, .int x7)] → zW ca D zcl A M H → va_S A s.heap H locs → w_Y_field_47 post n M a0 x1 x2 x3 x4 x5 x6 x7 → W p l e rm_Y_field s m args below meth c H locs 0 0 Q (F0 m 47 ls []) := by
    intro n
    induction n with
    | zero =>
      intro M H locs ls a0 x1 x2 x3 x4 x5 x6 x7 hl hM hS h
      exact False.elim h
    | succ n ih =>
      intro M H locs ls a0 x1 x2 x3 x4 x5 x6 x7 hl hM hS h
      rw [w_Y_field_47] at h
      refine lv_iload hx hb d_Y_field_47 (hl.at 7 rfl) ?_
      refine lv_aload_n hx hb d_Y_field_49 rfl (hl.at 0 rfl) ?_
      obtain ⟨t11, h⟩ := h
      refine z_getI hx hb hW in_9 hown hK hM t11 (by decide) rfl 28 (by decide) rfl (hW _ k_613) rfl d_Y_field_50 ?_
      refine lv_icmp_ge (tgt := 93) hx hb d_Y_field_53 rfl (fun c12 => ?_) (fun c12 => ?_)
      · replace h := h.1 c12
        refine lv_aload_n hx hb d_Y_field_93 rfl (hl.at 0 rfl) ?_
        refine z_cti (mc := 0) (ms := 0) (va_runV (As := []) (rest := []) ⟨hx, hb, hml, hown, hW⟩ (c_Y_oldest l ca D M H.size a0 _) (cw_Y_oldest hW k_750 ⟨by decide, by decide⟩) (zPre_V hK hN hM h t11 (by decide) rfl) rfl rfl hl.1.1 rfl (lv_room (Nat.le_of_ble_eq_true rfl)) d_Y_field_94 ⟨by decide, by decide⟩) hM hS hA (fun r13 M14 H locs h hM hS => ?_)
        refine z_istore hx hb d_Y_field_97 hl (by decide) rfl (fun ls hl => ?_)
        have hl : zL ls 9 [(7, .int r13), (0, .ref a0), (1, .int x1), (2, .int x2), (3, .int x3), (4, .int x4), (5, .int x5), (6, .int x6)] := hl
        refine lv_aload_n hx hb d_Y_field_99 rfl (hl.at 1 rfl) ?_
        obtain ⟨t15, h⟩ := h
        refine z_getI hx hb hW in_9 hown hK hM t15 (by decide) rfl 28 (by decide) rfl (hW _ k_613) rfl d_Y_field_100 ?_
        refine lv_iconst (v := (5 : Int32)) hx hb d_Y_field_103 (by decide) ?_
        refine lv_icmp_lt (tgt := 124) hx hb d_Y_field_104 rfl (fun c16 => ?_) (fun c16 => ?_)
        · replace h := h.1 c16
          refine lv_iconst (v := (1 : Int32)) hx hb d_Y_field_124 (by decide) ?_
          refine lv_goto (tgt := 129) hx hb d_Y_field_125 rfl ?_
          refine z_istore hx hb d_Y_field_129 hl (by decide) rfl (fun ls hl => ?_)
          have hl : zL ls 9 [(8, .int (1 : Int32)), (7, .int r13), (0, .ref a0), (1, .int x1), (2, .int x2), (3, .int x3), (4, .int x4), (5, .int x5), (6, .int x6)] := hl
          refine lv_iload hx hb d_Y_field_131 (hl.at 8 rfl) ?_
          refine lv_if_lt (tgt := 173) hx hb d_Y_field_133 rfl (fun c17 => ?_) (fun c17 => ?_)
          · replace h := h.1 c17
            refine lv_iload hx hb d_Y_field_173 (hl.at 8 rfl) ?_
            refine lv_if_ge (tgt := 245) hx hb d_Y_field_175 rfl (fun c18 => ?_) (fun c18 => ?_)
            · replace h := h.1 c18
              refine W.widen (k := 0) (n := 0) (by decide) (by decide) ?_
              exact b_245 M14 H locs ls a0 x1 x2 x3 x4 x5 x6 r13 (1 : Int32) (hl.sub [2, 3, 4, 5, 6, 7, 8, 1, 0] rfl) hM hS h
            · replace h := h.2 c18
              refine lv_iload hx hb d_Y_field_178 (hl.at 7 rfl) ?_
              refine lv_if_eq (tgt := 245) hx hb d_Y_field_180 rfl (fun c22 => ?_) (fun c22 => ?_)
              · replace h := h.1 c22
                refine W.widen (k := 0) (n := 0) (by decide) (by decide) ?_
                exact b_245 M14 H locs ls a0 x1 x2 x3 x4 x5 x6 r13 (1 : Int32) (hl.sub [2, 3, 4, 5, 6, 7, 8, 1, 0] rfl) hM hS h
              · replace h := h.2 c22
                refine lv_iload hx hb d_Y_field_183 (hl.at 0 rfl) ?_
                refine lv_if_eq (tgt := 245) hx hb d_Y_field_185 rfl (fun c23 => ?_) (fun c23 => ?_)
                · replace h := h.1 c23
                  refine W.widen (k := 0) (n := 0) (by decide) (by decide) ?_
                  exact b_245 M14 H locs ls a0 x1 x2 x3 x4 x5 x6 r13 (1 : Int32) (hl.sub [2, 3, 4, 5, 6, 7, 8, 1, 0] rfl) hM hS h
                · replace h := h.2 c23
                  refine lv_aload_n hx hb d_Y_field_188 rfl (hl.at 2 rfl) ?_
                  refine z_getR hx hb hW in_9 hown hK hM t15 (by decide) rfl 26 (by decide) rfl (hW _ k_611) rfl d_Y_field_189 ?_
                  refine lv_aload_n hx hb d_Y_field_192 rfl (hl.at 2 rfl) ?_
                  refine z_getI hx hb hW in_9 hown hK hM t15 (by decide) rfl 28 (by decide) rfl (hW _ k_613) rfl d_Y_field_193 ?_
                  refine lv_iload_n hx hb d_Y_field_196 rfl (hl.at 4 rfl) ?_
                  obtain ⟨b24, hb25, h⟩ := h
                  rw [hb25]
                  obtain ⟨n27, t26, h⟩ := h
                  obtain ⟨i28, h⟩ := h
                  refine z_iast hx hb hK hM hS t26 0 rfl i28 d_Y_field_197 (fun H locs hM hS => ?_)
                  obtain ⟨M29, e30⟩ : ∃ z, z = zwI M14 b24 (zI M14 a0 28).toNatClampNeg x2 := ⟨_, rfl⟩
                  replace h := h M29 e30
                  rw [← e30] at hM
                  refine lv_aload_n hx hb d_Y_field_198 rfl (hl.at 2 rfl) ?_
                  have t31 : zT M29 a0 = some (9, 40) := by rw [e30]; exact t15
                  refine z_getR hx hb hW in_9 hown hK hM t31 (by decide) rfl 27 (by decide) rfl (hW _ k_612) rfl d_Y_field_199 ?_
                  refine lv_aload_n hx hb d_Y_field_202 rfl (hl.at 2 rfl) ?_
                  refine z_getI hx hb hW in_9 hown hK hM t31 (by decide) rfl 28 (by decide) rfl (hW _ k_613) rfl d_Y_field_203 ?_
                  refine lv_iload_n hx hb d_Y_field_206 rfl (hl.at 5 rfl) ?_
                  obtain ⟨b32, hb33, h⟩ := h
                  rw [hb33]
                  obtain ⟨n35, t34, h⟩ := h
                  obtain ⟨i36, h⟩ := h
                  refine z_iast hx hb hK hM hS t34 0 rfl i36 d_Y_field_207 (fun H locs hM hS => ?_)
                  obtain ⟨M37, e38⟩ : ∃ z, z = zwI M29 b32 (zI M29 a0 28).toNatClampNeg x3 := ⟨_, rfl⟩
                  replace h := h M37 e38
                  rw [← e38] at hM
                  refine lv_aload_n hx hb d_Y_field_208 rfl (hl.at 2 rfl) ?_
                  have t39 : zT M37 a0 = some (9, 40) := by rw [e38]; exact t31
                  refine z_getR hx hb hW in_9 hown hK hM t39 (by decide) rfl 20 (by decide) rfl (hW _ k_605) rfl d_Y_field_209 ?_
                  refine lv_iconst (v := (3 : Int32)) hx hb d_Y_field_212 (by decide) ?_
                  refine lv_iload_n hx hb d_Y_field_213 rfl (hl.at 3 rfl) ?_
                  refine lv_imul hx hb d_Y_field_214 ?_
                  refine lv_iload_n hx hb d_Y_field_215 rfl (hl.at 4 rfl) ?_
                  refine lv_iadd hx hb d_Y_field_216 ?_
                  refine lv_aload_n hx hb d_Y_field_217 rfl (hl.at 2 rfl) ?_
                  refine z_getI hx hb hW in_9 hown hK hM t39 (by decide) rfl 28 (by decide) rfl (hW _ k_613) rfl d_Y_field_218 ?_
                  obtain ⟨b40, hb41, h⟩ := h
                  rw [hb41]
                  obtain ⟨n43, t42, h⟩ := h
                  obtain ⟨i44, h⟩ := h
                  refine z_iast hx hb hK hM hS t42 0 rfl i44 d_Y_field_221 (fun H locs hM hS => ?_)
                  obtain ⟨M45, e46⟩ : ∃ z, z = zwI M37 b40 (((3 : Int32) * x1) + x2).toNatClampNeg (zI M37 a0 28) := ⟨_, rfl⟩
                  replace h := h M45 e46
                  rw [← e46] at hM
                  refine lv_aload_n hx hb d_Y_field_222 rfl (hl.at 2 rfl) ?_
                  refine lv_dup hx hb d_Y_field_223 rfl ?_
                  have t47 : zT M45 a0 = some (9, 40) := by rw [e46]; exact t39
                  refine z_getI hx hb hW in_9 hown hK hM t47 (by decide) rfl 28 (by decide) rfl (hW _ k_613) rfl d_Y_field_224 ?_
                  refine lv_iconst (v := (1 : Int32)) hx hb d_Y_field_227 (by decide) ?_
                  refine lv_iadd hx hb d_Y_field_228 ?_
                  refine z_putI hx hb hW in_9 ty_9 tyok_9 nm_9 hown hK hM hS t47 (by decide) rfl 28 (by decide) rfl (hW _ k_613) rfl (Or.inl rfl) rfl rfl d_Y_field_229 (fun H locs hM hS => ?_)
                  obtain ⟨M48, e49⟩ : ∃ z, z = zwI M45 a0 28 ((zI M45 a0 28) + (1 : Int32)) := ⟨_, rfl⟩
                  replace h := h M48 e49
                  rw [← e49] at hM
                  refine lv_aload_n hx hb d_Y_field_232 rfl (hl.at 2 rfl) ?_
                  refine lv_dup hx hb d_Y_field_233 rfl ?_
                  have t50 : zT M48 a0 = some (9, 40) := by rw [e49]; exact t47
                  refine z_getI hx hb hW in_9 hown hK hM t50 (by decide) rfl 31 (by decide) rfl (hW _ k_616) rfl d_Y_field_234 ?_
                  refine lv_iconst (v := (1 : Int32)) hx hb d_Y_field_237 (by decide) ?_
                  refine lv_iadd hx hb d_Y_field_238 ?_
                  refine z_putI hx hb hW in_9 ty_9 tyok_9 nm_9 hown hK hM hS t50 (by decide) rfl 31 (by decide) rfl (hW _ k_616) rfl (Or.inl rfl) rfl rfl d_Y_field_239 (fun H locs hM hS => ?_)
                  obtain ⟨M51, e52⟩ : ∃ z, z = zwI M48 a0 31 ((zI M48 a0 31) + (1 : Int32)) := ⟨_, rfl⟩
                  replace h := h M51 e52
                  rw [← e52] at hM
                  refine lv_goto (tgt := 255) hx hb d_Y_field_242 rfl ?_
                  refine W.widen (k := 0) (n := 0) (by decide) (by decide) ?_
                  rw [← hQ]
                  exact z_vret hx hb hr hlk hK hM hS h d_Y_field_255
          · replace h := h.2 c17
            refine lv_iload hx hb d_Y_field_136 (hl.at 8 rfl) ?_
            refine lv_iload hx hb d_Y_field_138 (hl.at 6 rfl) ?_
            refine lv_icmp_lt (tgt := 148) hx hb d_Y_field_140 rfl (fun c53 => ?_) (fun c53 => ?_)
            · replace h := h.1 c53
              refine W.widen (k := 0) (n := 0) (by decide) (by decide) ?_
              exact b_148 M14 H locs ls a0 x1 x2 x3 x4 x5 x6 r13 (1 : Int32) (hl.sub [2, 3, 4, 5, 6, 7, 8, 1, 0] rfl) hM hS h
            · replace h := h.2 c53
              refine lv_iload hx hb d_Y_field_143 (hl.at 7 rfl) ?_
              refine lv_if_eq (tgt := 173) hx hb d_Y_field_145 rfl (fun c65 => ?_) (fun c65 => ?_)
              · replace h := h.1 c65
                refine lv_iload hx hb d_Y_field_173 (hl.at 8 rfl) ?_
                refine lv_if_ge (tgt := 245) hx hb d_Y_field_175 rfl (fun c66 => ?_) (fun c66 => ?_)
                · replace h := h.1 c66
                  refine W.widen (k := 0) (n := 0) (by decide) (by decide) ?_
                  exact b_245 M14 H locs ls a0 x1 x2 x3 x4 x5 x6 r13 (1 : Int32) (hl.sub [2, 3, 4, 5, 6, 7, 8, 1, 0] rfl) hM hS h
                · replace h := h.2 c66
                  refine lv_iload hx hb d_Y_field_178 (hl.at 7 rfl) ?_
                  refine lv_if_eq (tgt := 245) hx hb d_Y_field_180 rfl (fun c67 => ?_) (fun c67 => ?_)
                  · replace h := h.1 c67
                    refine W.widen (k := 0) (n := 0) (by decide) (by decide) ?_
                    exact b_245 M14 H locs ls a0 x1 x2 x3 x4 x5 x6 r13 (1 : Int32) (hl.sub [2, 3, 4, 5, 6, 7, 8, 1, 0] rfl) hM hS h
                  · replace h := h.2 c67
                    refine lv_iload hx hb d_Y_field_183 (hl.at 0 rfl) ?_
                    refine lv_if_eq (tgt := 245) hx hb d_Y_field_185 rfl (fun c68 => ?_) (fun c68 => ?_)
                    · replace h := h.1 c68
                      refine W.widen (k := 0) (n := 0) (by decide) (by decide) ?_
                      exact b_245 M14 H locs ls a0 x1 x2 x3 x4 x5 x6 r13 (1 : Int32) (hl.sub [2, 3, 4, 5, 6, 7, 8, 1, 0] rfl) hM hS h
                    · replace h := h.2 c68
                      refine lv_aload_n hx hb d_Y_field_188 rfl (hl.at 2 rfl) ?_
                      refine z_getR hx hb hW in_9 hown hK hM t15 (by decide) rfl 26 (by decide) rfl (hW _ k_611) rfl d_Y_field_189 ?_
                      refine lv_aload_n hx hb d_Y_field_192 rfl (hl.at 2 rfl) ?_
                      refine z_getI hx hb hW in_9 hown hK hM t15 (by decide) rfl 28 (by decide) rfl (hW _ k_613) rfl d_Y_field_193 ?_
                      refine lv_iload_n hx hb d_Y_field_196 rfl (hl.at 4 rfl) ?_
                      obtain ⟨b69, hb70, h⟩ := h
                      rw [hb70]
                      obtain ⟨n72, t71, h⟩ := h
                      obtain ⟨i73, h⟩ := h
                      refine z_iast hx hb hK hM hS t71 0 rfl i73 d_Y_field_197 (fun H locs hM hS => ?_)
                      obtain ⟨M74, e75⟩ : ∃ z, z = zwI M14 b69 (zI M14 a0 28).toNatClampNeg x2 := ⟨_, rfl⟩
                      replace h := h M74 e75
                      rw [← e75] at hM
                      refine lv_aload_n hx hb d_Y_field_198 rfl (hl.at 2 rfl) ?_
                      have t76 : zT M74 a0 = some (9, 40) := by rw [e75]; exact t15
                      refine z_getR hx hb hW in_9 hown hK hM t76 (by decide) rfl 27 (by decide) rfl (hW _ k_612) rfl d_Y_field_199 ?_
                      refine lv_aload_n hx hb d_Y_field_202 rfl (hl.at 2 rfl) ?_
                      refine z_getI hx hb hW in_9 hown hK hM t76 (by decide) rfl 28 (by decide) rfl (hW _ k_613) rfl d_Y_field_203 ?_
                      refine lv_iload_n hx hb d_Y_field_206 rfl (hl.at 5 rfl) ?_
                      obtain ⟨b77, hb78, h⟩ := h
                      rw [hb78]
                      obtain ⟨n80, t79, h⟩ := h
                      obtain ⟨i81, h⟩ := h
                      refine z_iast hx hb hK hM hS t79 0 rfl i81 d_Y_field_207 (fun H locs hM hS => ?_)
                      obtain ⟨M82, e83⟩ : ∃ z, z = zwI M74 b77 (zI M74 a0 28).toNatClampNeg x3 := ⟨_, rfl⟩
                      replace h := h M82 e83
                      rw [← e83] at hM
                      refine lv_aload_n hx hb d_Y_field_208 rfl (hl.at 2 rfl) ?_
                      have t84 : zT M82 a0 = some (9, 40) := by rw [e83]; exact t76
                      refine z_getR hx hb hW in_9 hown hK hM t84 (by decide) rfl 20 (by decide) rfl (hW _ k_605) rfl d_Y_field_209 ?_
                      refine lv_iconst (v := (3 : Int32)) hx hb d_Y_field_212 (by decide) ?_
                      refine lv_iload_n hx hb d_Y_field_213 rfl (hl.at 3 rfl) ?_
                      refine lv_imul hx hb d_Y_field_214 ?_
                      refine lv_iload_n hx hb d_Y_field_215 rfl (hl.at 4 rfl) ?_
                      refine lv_iadd hx hb d_Y_field_216 ?_
                      refine lv_aload_n hx hb d_Y_field_217 rfl (hl.at 2 rfl) ?_
                      refine z_getI hx hb hW in_9 hown hK hM t84 (by decide) rfl 28 (by decide) rfl (hW _ k_613) rfl d_Y_field_218 ?_
                      obtain ⟨b85, hb86, h⟩ := h
                      rw [hb86]
                      obtain ⟨n88, t87, h⟩ := h
                      obtain ⟨i89, h⟩ := h
                      refine z_iast hx hb hK hM hS t87 0 rfl i89 d_Y_field_221 (fun H locs hM hS => ?_)
                      obtain ⟨M90, e91⟩ : ∃ z, z = zwI M82 b85 (((3 : Int32) * x1) + x2).toNatClampNeg (zI M82 a0 28) := ⟨_, rfl⟩
                      replace h := h M90 e91
                      rw [← e91] at hM
                      refine lv_aload_n hx hb d_Y_field_222 rfl (hl.at 2 rfl) ?_
                      refine lv_dup hx hb d_Y_field_223 rfl ?_
                      have t92 : zT M90 a0 = some (9, 40) := by rw [e91]; exact t84
                      refine z_getI hx hb hW in_9 hown hK hM t92 (by decide) rfl 28 (by decide) rfl (hW _ k_613) rfl d_Y_field_224 ?_
                      refine lv_iconst (v := (1 : Int32)) hx hb d_Y_field_227 (by decide) ?_
                      refine lv_iadd hx hb d_Y_field_228 ?_
                      refine z_putI hx hb hW in_9 ty_9 tyok_9 nm_9 hown hK hM hS t92 (by decide) rfl 28 (by decide) rfl (hW _ k_613) rfl (Or.inl rfl) rfl rfl d_Y_field_229 (fun H locs hM hS => ?_)
                      obtain ⟨M93, e94⟩ : ∃ z, z = zwI M90 a0 28 ((zI M90 a0 28) + (1 : Int32)) := ⟨_, rfl⟩
                      replace h := h M93 e94
                      rw [← e94] at hM
                      refine lv_aload_n hx hb d_Y_field_232 rfl (hl.at 2 rfl) ?_
                      refine lv_dup hx hb d_Y_field_233 rfl ?_
                      have t95 : zT M93 a0 = some (9, 40) := by rw [e94]; exact t92
                      refine z_getI hx hb hW in_9 hown hK hM t95 (by decide) rfl 31 (by decide) rfl (hW _ k_616) rfl d_Y_field_234 ?_
                      refine lv_iconst (v := (1 : Int32)) hx hb d_Y_field_237 (by decide) ?_
                      refine lv_iadd hx hb d_Y_field_238 ?_
                      refine z_putI hx hb hW in_9 ty_9 tyok_9 nm_9 hown hK hM hS t95 (by decide) rfl 31 (by decide) rfl (hW _ k_616) rfl (Or.inl rfl) rfl rfl d_Y_field_239 (fun H locs hM hS => ?_)
                      obtain ⟨M96, e97⟩ : ∃ z, z = zwI M93 a0 31 ((zI M93 a0 31) + (1 : Int32)) := ⟨_, rfl⟩
                      replace h := h M96 e97
                      rw [← e97] at hM
                      refine lv_goto (tgt := 255) hx hb d_Y_field_242 rfl ?_
                      refine W.widen (k := 0) (n := 0) (by decide) (by decide) ?_
                      rw [← hQ]
                      exact z_vret hx hb hr hlk hK hM hS h d_Y_field_255
              · replace h := h.2 c65
                refine W.widen (k := 0) (n := 0) (by decide) (by decide) ?_
                exact b_148 M14 H locs ls a0 x1 x2 x3 x4 x5 x6 r13 (1 : Int32) (hl.sub [2, 3, 4, 5, 6, 7, 8, 1, 0] rfl) hM hS h
        · replace h := h.2 c16
          refine lv_iload hx hb d_Y_field_107 (hl.at 0 rfl) ?_
          refine lv_iload hx hb d_Y_field_109 (hl.at 5 rfl) ?_
          refine lv_icmp_ge (tgt := 128) hx hb d_Y_field_111 rfl (fun c98 => ?_) (fun c98 => ?_)
          · replace h := h.1 c98
            refine lv_iconst (v := (0 : Int32)) hx hb d_Y_field_128 (by decide) ?_
            refine z_istore hx hb d_Y_field_129 hl (by decide) rfl (fun ls hl => ?_)
            have hl : zL ls 9 [(8, .int (0 : Int32)), (7, .int r13), (0, .ref a0), (1, .int x1), (2, .int x2), (3, .int x3), (4, .int x4), (5, .int x5), (6, .int x6)] := hl
            refine lv_iload hx hb d_Y_field_131 (hl.at 8 rfl) ?_
            refine lv_if_lt (tgt := 173) hx hb d_Y_field_133 rfl (fun c99 => ?_) (fun c99 => ?_)
            · replace h := h.1 c99
              refine lv_iload hx hb d_Y_field_173 (hl.at 8 rfl) ?_
              refine lv_if_ge (tgt := 245) hx hb d_Y_field_175 rfl (fun c100 => ?_) (fun c100 => ?_)
              · replace h := h.1 c100
                refine W.widen (k := 0) (n := 0) (by decide) (by decide) ?_
                exact b_245 M14 H locs ls a0 x1 x2 x3 x4 x5 x6 r13 (0 : Int32) (hl.sub [2, 3, 4, 5, 6, 7, 8, 1, 0] rfl) hM hS h
              · replace h := h.2 c100
                refine lv_iload hx hb d_Y_field_178 (hl.at 7 rfl) ?_
                refine lv_if_eq (tgt := 245) hx hb d_Y_field_180 rfl (fun c101 => ?_) (fun c101 => ?_)
                · replace h := h.1 c101
                  refine W.widen (k := 0) (n := 0) (by decide) (by decide) ?_
                  exact b_245 M14 H locs ls a0 x1 x2 x3 x4 x5 x6 r13 (0 : Int32) (hl.sub [2, 3, 4, 5, 6, 7, 8, 1, 0] rfl) hM hS h
                · replace h := h.2 c101
                  refine lv_iload hx hb d_Y_field_183 (hl.at 0 rfl) ?_
                  refine lv_if_eq (tgt := 245) hx hb d_Y_field_185 rfl (fun c102 => ?_) (fun c102 => ?_)
                  · replace h := h.1 c102
                    refine W.widen (k := 0) (n := 0) (by decide) (by decide) ?_
                    exact b_245 M14 H locs ls a0 x1 x2 x3 x4 x5 x6 r13 (0 : Int32) (hl.sub [2, 3, 4, 5, 6, 7, 8, 1, 0] rfl) hM hS h
                  · replace h := h.2 c102
                    refine lv_aload_n hx hb d_Y_field_188 rfl (hl.at 2 rfl) ?_
                    refine z_getR hx hb hW in_9 hown hK hM t15 (by decide) rfl 26 (by decide) rfl (hW _ k_611) rfl d_Y_field_189 ?_
                    refine lv_aload_n hx hb d_Y_field_192 rfl (hl.at 2 rfl) ?_
                    refine z_getI hx hb hW in_9 hown hK hM t15 (by decide) rfl 28 (by decide) rfl (hW _ k_613) rfl d_Y_field_193 ?_
                    refine lv_iload_n hx hb d_Y_field_196 rfl (hl.at 4 rfl) ?_
                    obtain ⟨b103, hb104, h⟩ := h
                    rw [hb104]
                    obtain ⟨n106, t105, h⟩ := h
                    obtain ⟨i107, h⟩ := h
                    refine z_iast hx hb hK hM hS t105 0 rfl i107 d_Y_field_197 (fun H locs hM hS => ?_)
                    obtain ⟨M108, e109⟩ : ∃ z, z = zwI M14 b103 (zI M14 a0 28).toNatClampNeg x2 := ⟨_, rfl⟩
                    replace h := h M108 e109
                    rw [← e109] at hM
                    refine lv_aload_n hx hb d_Y_field_198 rfl (hl.at 2 rfl) ?_
                    have t110 : zT M108 a0 = some (9, 40) := by rw [e109]; exact t15
                    refine z_getR hx hb hW in_9 hown hK hM t110 (by decide) rfl 27 (by decide) rfl (hW _ k_612) rfl d_Y_field_199 ?_
                    refine lv_aload_n hx hb d_Y_field_202 rfl (hl.at 2 rfl) ?_
                    refine z_getI hx hb hW in_9 hown hK hM t110 (by decide) rfl 28 (by decide) rfl (hW _ k_613) rfl d_Y_field_203 ?_
                    refine lv_iload_n hx hb d_Y_field_206 rfl (hl.at 5 rfl) ?_
                    obtain ⟨b111, hb112, h⟩ := h
                    rw [hb112]
                    obtain ⟨n114, t113, h⟩ := h
                    obtain ⟨i115, h⟩ := h
                    refine z_iast hx hb hK hM hS t113 0 rfl i115 d_Y_field_207 (fun H locs hM hS => ?_)
                    obtain ⟨M116, e117⟩ : ∃ z, z = zwI M108 b111 (zI M108 a0 28).toNatClampNeg x3 := ⟨_, rfl⟩
                    replace h := h M116 e117
                    rw [← e117] at hM
                    refine lv_aload_n hx hb d_Y_field_208 rfl (hl.at 2 rfl) ?_
                    have t118 : zT M116 a0 = some (9, 40) := by rw [e117]; exact t110
                    refine z_getR hx hb hW in_9 hown hK hM t118 (by decide) rfl 20 (by decide) rfl (hW _ k_605) rfl d_Y_field_209 ?_
                    refine lv_iconst (v := (3 : Int32)) hx hb d_Y_field_212 (by decide) ?_
                    refine lv_iload_n hx hb d_Y_field_213 rfl (hl.at 3 rfl) ?_
                    refine lv_imul hx hb d_Y_field_214 ?_
                    refine lv_iload_n hx hb d_Y_field_215 rfl (hl.at 4 rfl) ?_
                    refine lv_iadd hx hb d_Y_field_216 ?_
                    refine lv_aload_n hx hb d_Y_field_217 rfl (hl.at 2 rfl) ?_
                    refine z_getI hx hb hW in_9 hown hK hM t118 (by decide) rfl 28 (by decide) rfl (hW _ k_613) rfl d_Y_field_218 ?_
                    obtain ⟨b119, hb120, h⟩ := h
                    rw [hb120]
                    obtain ⟨n122, t121, h⟩ := h
                    obtain ⟨i123, h⟩ := h
                    refine z_iast hx hb hK hM hS t121 0 rfl i123 d_Y_field_221 (fun H locs hM hS => ?_)
                    obtain ⟨M124, e125⟩ : ∃ z, z = zwI M116 b119 (((3 : Int32) * x1) + x2).toNatClampNeg (zI M116 a0 28) := ⟨_, rfl⟩
                    replace h := h M124 e125
                    rw [← e125] at hM
                    refine lv_aload_n hx hb d_Y_field_222 rfl (hl.at 2 rfl) ?_
                    refine lv_dup hx hb d_Y_field_223 rfl ?_
                    have t126 : zT M124 a0 = some (9, 40) := by rw [e125]; exact t118
                    refine z_getI hx hb hW in_9 hown hK hM t126 (by decide) rfl 28 (by decide) rfl (hW _ k_613) rfl d_Y_field_224 ?_
                    refine lv_iconst (v := (1 : Int32)) hx hb d_Y_field_227 (by decide) ?_
                    refine lv_iadd hx hb d_Y_field_228 ?_
                    refine z_putI hx hb hW in_9 ty_9 tyok_9 nm_9 hown hK hM hS t126 (by decide) rfl 28 (by decide) rfl (hW _ k_613) rfl (Or.inl rfl) rfl rfl d_Y_field_229 (fun H locs hM hS => ?_)
                    obtain ⟨M127, e128⟩ : ∃ z, z = zwI M124 a0 28 ((zI M124 a0 28) + (1 : Int32)) := ⟨_, rfl⟩
                    replace h := h M127 e128
                    rw [← e128] at hM
                    refine lv_aload_n hx hb d_Y_field_232 rfl (hl.at 2 rfl) ?_
                    refine lv_dup hx hb d_Y_field_233 rfl ?_
                    have t129 : zT M127 a0 = some (9, 40) := by rw [e128]; exact t126
                    refine z_getI hx hb hW in_9 hown hK hM t129 (by decide) rfl 31 (by decide) rfl (hW _ k_616) rfl d_Y_field_234 ?_
                    refine lv_iconst (v := (1 : Int32)) hx hb d_Y_field_237 (by decide) ?_
                    refine lv_iadd hx hb d_Y_field_238 ?_
                    refine z_putI hx hb hW in_9 ty_9 tyok_9 nm_9 hown hK hM hS t129 (by decide) rfl 31 (by decide) rfl (hW _ k_616) rfl (Or.inl rfl) rfl rfl d_Y_field_239 (fun H locs hM hS => ?_)
                    obtain ⟨M130, e131⟩ : ∃ z, z = zwI M127 a0 31 ((zI M127 a0 31) + (1 : Int32)) := ⟨_, rfl⟩
                    replace h := h M130 e131
                    rw [← e131] at hM
                    refine lv_goto (tgt := 255) hx hb d_Y_field_242 rfl ?_
                    refine W.widen (k := 0) (n := 0) (by decide) (by decide) ?_
                    rw [← hQ]
                    exact z_vret hx hb hr hlk hK hM hS h d_Y_field_255
            · replace h := h.2 c99
              refine lv_iload hx hb d_Y_field_136 (hl.at 8 rfl) ?_
              refine lv_iload hx hb d_Y_field_138 (hl.at 6 rfl) ?_
              refine lv_icmp_lt (tgt := 148) hx hb d_Y_field_140 rfl (fun c132 => ?_) (fun c132 => ?_)
              · replace h := h.1 c132
                refine W.widen (k := 0) (n := 0) (by decide) (by decide) ?_
                exact b_148 M14 H locs ls a0 x1 x2 x3 x4 x5 x6 r13 (0 : Int32) (hl.sub [2, 3, 4, 5, 6, 7, 8, 1, 0] rfl) hM hS h
              · replace h := h.2 c132
                refine lv_iload hx hb d_Y_field_143 (hl.at 7 rfl) ?_
                refine lv_if_eq (tgt := 173) hx hb d_Y_field_145 rfl (fun c133 => ?_) (fun c133 => ?_)
                · replace h := h.1 c133
                  refine lv_iload hx hb d_Y_field_173 (hl.at 8 rfl) ?_
                  refine lv_if_ge (tgt := 245) hx hb d_Y_field_175 rfl (fun c134 => ?_) (fun c134 => ?_)
                  · replace h := h.1 c134
                    refine W.widen (k := 0) (n := 0) (by decide) (by decide) ?_
                    exact b_245 M14 H locs ls a0 x1 x2 x3 x4 x5 x6 r13 (0 : Int32) (hl.sub [2, 3, 4, 5, 6, 7, 8, 1, 0] rfl) hM hS h
                  · replace h := h.2 c134
                    refine lv_iload hx hb d_Y_field_178 (hl.at 7 rfl) ?_
                    refine lv_if_eq (tgt := 245) hx hb d_Y_field_180 rfl (fun c135 => ?_) (fun c135 => ?_)
                    · replace h := h.1 c135
                      refine W.widen (k := 0) (n := 0) (by decide) (by decide) ?_
                      exact b_245 M14 H locs ls a0 x1 x2 x3 x4 x5 x6 r13 (0 : Int32) (hl.sub [2, 3, 4, 5, 6, 7, 8, 1, 0] rfl) hM hS h
                    · replace h := h.2 c135
                      refine lv_iload hx hb d_Y_field_183 (hl.at 0 rfl) ?_
                      refine lv_if_eq (tgt := 245) hx hb d_Y_field_185 rfl (fun c136 => ?_) (fun c136 => ?_)
                      · replace h := h.1 c136
                        refine W.widen (k := 0) (n := 0) (by decide) (by decide) ?_
                        exact b_245 M14 H locs ls a0 x1 x2 x3 x4 x5 x6 r13 (0 : Int32) (hl.sub [2, 3, 4, 5, 6, 7, 8, 1, 0] rfl) hM hS h
                      · replace h := h.2 c136
                        refine lv_aload_n hx hb d_Y_field_188 rfl (hl.at 2 rfl) ?_
                        refine z_getR hx hb hW in_9 hown hK hM t15 (by decide) rfl 26 (by decide) rfl (hW _ k_611) rfl d_Y_field_189 ?_
                        refine lv_aload_n hx hb d_Y_field_192 rfl (hl.at 2 rfl) ?_
                        refine z_getI hx hb hW in_9 hown hK hM t15 (by decide) rfl 28 (by decide) rfl (hW _ k_613) rfl d_Y_field_193 ?_
                        refine lv_iload_n hx hb d_Y_field_196 rfl (hl.at 4 rfl) ?_
                        obtain ⟨b137, hb138, h⟩ := h
                        rw [hb138]
                        obtain ⟨n140, t139, h⟩ := h
                        obtain ⟨i141, h⟩ := h
                        refine z_iast hx hb hK hM hS t139 0 rfl i141 d_Y_field_197 (fun H locs hM hS => ?_)
                        obtain ⟨M142, e143⟩ : ∃ z, z = zwI M14 b137 (zI M14 a0 28).toNatClampNeg x2 := ⟨_, rfl⟩
                        replace h := h M142 e143
                        rw [← e143] at hM
                        refine lv_aload_n hx hb d_Y_field_198 rfl (hl.at 2 rfl) ?_
                        have t144 : zT M142 a0 = some (9, 40) := by rw [e143]; exact t15
                        refine z_getR hx hb hW in_9 hown hK hM t144 (by decide) rfl 27 (by decide) rfl (hW _ k_612) rfl d_Y_field_199 ?_
                        refine lv_aload_n hx hb d_Y_field_202 rfl (hl.at 2 rfl) ?_
                        refine z_getI hx hb hW in_9 hown hK hM t144 (by decide) rfl 28 (by decide) rfl (hW _ k_613) rfl d_Y_field_203 ?_
                        refine lv_iload_n hx hb d_Y_field_206 rfl (hl.at 5 rfl) ?_
                        obtain ⟨b145, hb146, h⟩ := h
                        rw [hb146]
                        obtain ⟨n148, t147, h⟩ := h
                        obtain ⟨i149, h⟩ := h
                        refine z_iast hx hb hK hM hS t147 0 rfl i149 d_Y_field_207 (fun H locs hM hS => ?_)
                        obtain ⟨M150, e151⟩ : ∃ z, z = zwI M142 b145 (zI M142 a0 28).toNatClampNeg x3 := ⟨_, rfl⟩
                        replace h := h M150 e151
                        rw [← e151] at hM
                        refine lv_aload_n hx hb d_Y_field_208 rfl (hl.at 2 rfl) ?_
                        have t152 : zT M150 a0 = some (9, 40) := by rw [e151]; exact t144
                        refine z_getR hx hb hW in_9 hown hK hM t152 (by decide) rfl 20 (by decide) rfl (hW _ k_605) rfl d_Y_field_209 ?_
                        refine lv_iconst (v := (3 : Int32)) hx hb d_Y_field_212 (by decide) ?_
                        refine lv_iload_n hx hb d_Y_field_213 rfl (hl.at 3 rfl) ?_
                        refine lv_imul hx hb d_Y_field_214 ?_
                        refine lv_iload_n hx hb d_Y_field_215 rfl (hl.at 4 rfl) ?_
                        refine lv_iadd hx hb d_Y_field_216 ?_
                        refine lv_aload_n hx hb d_Y_field_217 rfl (hl.at 2 rfl) ?_
                        refine z_getI hx hb hW in_9 hown hK hM t152 (by decide) rfl 28 (by decide) rfl (hW _ k_613) rfl d_Y_field_218 ?_
                        obtain ⟨b153, hb154, h⟩ := h
                        rw [hb154]
                        obtain ⟨n156, t155, h⟩ := h
                        obtain ⟨i157, h⟩ := h
                        refine z_iast hx hb hK hM hS t155 0 rfl i157 d_Y_field_221 (fun H locs hM hS => ?_)
                        obtain ⟨M158, e159⟩ : ∃ z, z = zwI M150 b153 (((3 : Int32) * x1) + x2).toNatClampNeg (zI M150 a0 28) := ⟨_, rfl⟩
                        replace h := h M158 e159
                        rw [← e159] at hM
                        refine lv_aload_n hx hb d_Y_field_222 rfl (hl.at 2 rfl) ?_
                        refine lv_dup hx hb d_Y_field_223 rfl ?_
                        have t160 : zT M158 a0 = some (9, 40) := by rw [e159]; exact t152
                        refine z_getI hx hb hW in_9 hown hK hM t160 (by decide) rfl 28 (by decide) rfl (hW _ k_613) rfl d_Y_field_224 ?_
                        refine lv_iconst (v := (1 : Int32)) hx hb d_Y_field_227 (by decide) ?_
                        refine lv_iadd hx hb d_Y_field_228 ?_
                        refine z_putI hx hb hW in_9 ty_9 tyok_9 nm_9 hown hK hM hS t160 (by decide) rfl 28 (by decide) rfl (hW _ k_613) rfl (Or.inl rfl) rfl rfl d_Y_field_229 (fun H locs hM hS => ?_)
                        obtain ⟨M161, e162⟩ : ∃ z, z = zwI M158 a0 28 ((zI M158 a0 28) + (1 : Int32)) := ⟨_, rfl⟩
                        replace h := h M161 e162
                        rw [← e162] at hM
                        refine lv_aload_n hx hb d_Y_field_232 rfl (hl.at 2 rfl) ?_
                        refine lv_dup hx hb d_Y_field_233 rfl ?_
                        have t163 : zT M161 a0 = some (9, 40) := by rw [e162]; exact t160
                        refine z_getI hx hb hW in_9 hown hK hM t163 (by decide) rfl 31 (by decide) rfl (hW _ k_616) rfl d_Y_field_234 ?_
                        refine lv_iconst (v := (1 : Int32)) hx hb d_Y_field_237 (by decide) ?_
                        refine lv_iadd hx hb d_Y_field_238 ?_
                        refine z_putI hx hb hW in_9 ty_9 tyok_9 nm_9 hown hK hM hS t163 (by decide) rfl 31 (by decide) rfl (hW _ k_616) rfl (Or.inl rfl) rfl rfl d_Y_field_239 (fun H locs hM hS => ?_)
                        obtain ⟨M164, e165⟩ : ∃ z, z = zwI M161 a0 31 ((zI M161 a0 31) + (1 : Int32)) := ⟨_, rfl⟩
                        replace h := h M164 e165
                        rw [← e165] at hM
                        refine lv_goto (tgt := 255) hx hb d_Y_field_242 rfl ?_
                        refine W.widen (k := 0) (n := 0) (by decide) (by decide) ?_
                        rw [← hQ]
                        exact z_vret hx hb hr hlk hK hM hS h d_Y_field_255
                · replace h := h.2 c133
                  refine W.widen (k := 0) (n := 0) (by decide) (by decide) ?_
                  exact b_148 M14 H locs ls a0 x1 x2 x3 x4 x5 x6 r13 (0 : Int32) (hl.sub [2, 3, 4, 5, 6, 7, 8, 1, 0] rfl) hM hS h
          · replace h := h.2 c98
            refine lv_aload_n hx hb d_Y_field_114 rfl (hl.at 1 rfl) ?_
            refine lv_iload hx hb d_Y_field_115 (hl.at 0 rfl) ?_
            refine lv_iload_n hx hb d_Y_field_117 rfl (hl.at 2 rfl) ?_
            refine z_cti (mc := 0) (ms := 0) (va_runV (As := [.int r13, .int x1]) (rest := []) ⟨hx, hb, hml, hown, hW⟩ (c_Y_uses l ca D M14 H.size a0 r13 x1 _) (cw_Y_uses hW k_754 ⟨by decide, by decide⟩) (zPre_V hK hN hM h t15 (by decide) rfl) rfl rfl hl.1.1 rfl (lv_room (Nat.le_of_ble_eq_true rfl)) d_Y_field_118 ⟨by decide, by decide⟩) hM hS hA (fun r166 M167 H locs h hM hS => ?_)
            refine lv_if_ne (tgt := 128) hx hb d_Y_field_121 rfl (fun c168 => ?_) (fun c168 => ?_)
            · replace h := h.2 c168
              refine lv_iconst (v := (0 : Int32)) hx hb d_Y_field_128 (by decide) ?_
              refine z_istore hx hb d_Y_field_129 hl (by decide) rfl (fun ls hl => ?_)
              have hl : zL ls 9 [(8, .int (0 : Int32)), (7, .int r13), (0, .ref a0), (1, .int x1), (2, .int x2), (3, .int x3), (4, .int x4), (5, .int x5), (6, .int x6)] := hl
              refine lv_iload hx hb d_Y_field_131 (hl.at 8 rfl) ?_
              refine lv_if_lt (tgt := 173) hx hb d_Y_field_133 rfl (fun c169 => ?_) (fun c169 => ?_)
              · replace h := h.1 c169
                refine lv_iload hx hb d_Y_field_173 (hl.at 8 rfl) ?_
                refine lv_if_ge (tgt := 245) hx hb d_Y_field_175 rfl (fun c170 => ?_) (fun c170 => ?_)
                · replace h := h.1 c170
                  refine W.widen (k := 0) (n := 0) (by decide) (by decide) ?_
                  exact b_245 M167 H locs ls a0 x1 x2 x3 x4 x5 x6 r13 (0 : Int32) (hl.sub [2, 3, 4, 5, 6, 7, 8, 1, 0] rfl) hM hS h
                · replace h := h.2 c170
                  refine lv_iload hx hb d_Y_field_178 (hl.at 7 rfl) ?_
                  refine lv_if_eq (tgt := 245) hx hb d_Y_field_180 rfl (fun c171 => ?_) (fun c171 => ?_)
                  · replace h := h.1 c171
                    refine W.widen (k := 0) (n := 0) (by decide) (by decide) ?_
                    exact b_245 M167 H locs ls a0 x1 x2 x3 x4 x5 x6 r13 (0 : Int32) (hl.sub [2, 3, 4, 5, 6, 7, 8, 1, 0] rfl) hM hS h
                  · replace h := h.2 c171
                    refine lv_iload hx hb d_Y_field_183 (hl.at 0 rfl) ?_
                    refine lv_if_eq (tgt := 245) hx hb d_Y_field_185 rfl (fun c172 => ?_) (fun c172 => ?_)
                    · replace h := h.1 c172
                      refine W.widen (k := 0) (n := 0) (by decide) (by decide) ?_
                      exact b_245 M167 H locs ls a0 x1 x2 x3 x4 x5 x6 r13 (0 : Int32) (hl.sub [2, 3, 4, 5, 6, 7, 8, 1, 0] rfl) hM hS h
                    · replace h := h.2 c172
                      refine lv_aload_n hx hb d_Y_field_188 rfl (hl.at 2 rfl) ?_
                      obtain ⟨t173, h⟩ := h
                      refine z_getR hx hb hW in_9 hown hK hM t173 (by decide) rfl 26 (by decide) rfl (hW _ k_611) rfl d_Y_field_189 ?_
                      refine lv_aload_n hx hb d_Y_field_192 rfl (hl.at 2 rfl) ?_
                      refine z_getI hx hb hW in_9 hown hK hM t173 (by decide) rfl 28 (by decide) rfl (hW _ k_613) rfl d_Y_field_193 ?_
                      refine lv_iload_n hx hb d_Y_field_196 rfl (hl.at 4 rfl) ?_
                      obtain ⟨b174, hb175, h⟩ := h
                      rw [hb175]
                      obtain ⟨n177, t176, h⟩ := h
                      obtain ⟨i178, h⟩ := h
                      refine z_iast hx hb hK hM hS t176 0 rfl i178 d_Y_field_197 (fun H locs hM hS => ?_)
                      obtain ⟨M179, e180⟩ : ∃ z, z = zwI M167 b174 (zI M167 a0 28).toNatClampNeg x2 := ⟨_, rfl⟩
                      replace h := h M179 e180
                      rw [← e180] at hM
                      refine lv_aload_n hx hb d_Y_field_198 rfl (hl.at 2 rfl) ?_
                      have t181 : zT M179 a0 = some (9, 40) := by rw [e180]; exact t173
                      refine z_getR hx hb hW in_9 hown hK hM t181 (by decide) rfl 27 (by decide) rfl (hW _ k_612) rfl d_Y_field_199 ?_
                      refine lv_aload_n hx hb d_Y_field_202 rfl (hl.at 2 rfl) ?_
                      refine z_getI hx hb hW in_9 hown hK hM t181 (by decide) rfl 28 (by decide) rfl (hW _ k_613) rfl d_Y_field_203 ?_
                      refine lv_iload_n hx hb d_Y_field_206 rfl (hl.at 5 rfl) ?_
                      obtain ⟨b182, hb183, h⟩ := h
                      rw [hb183]
                      obtain ⟨n185, t184, h⟩ := h
                      obtain ⟨i186, h⟩ := h
                      refine z_iast hx hb hK hM hS t184 0 rfl i186 d_Y_field_207 (fun H locs hM hS => ?_)
                      obtain ⟨M187, e188⟩ : ∃ z, z = zwI M179 b182 (zI M179 a0 28).toNatClampNeg x3 := ⟨_, rfl⟩
                      replace h := h M187 e188
                      rw [← e188] at hM
                      refine lv_aload_n hx hb d_Y_field_208 rfl (hl.at 2 rfl) ?_
                      have t189 : zT M187 a0 = some (9, 40) := by rw [e188]; exact t181
                      refine z_getR hx hb hW in_9 hown hK hM t189 (by decide) rfl 20 (by decide) rfl (hW _ k_605) rfl d_Y_field_209 ?_
                      refine lv_iconst (v := (3 : Int32)) hx hb d_Y_field_212 (by decide) ?_
                      refine lv_iload_n hx hb d_Y_field_213 rfl (hl.at 3 rfl) ?_
                      refine lv_imul hx hb d_Y_field_214 ?_
                      refine lv_iload_n hx hb d_Y_field_215 rfl (hl.at 4 rfl) ?_
                      refine lv_iadd hx hb d_Y_field_216 ?_
                      refine lv_aload_n hx hb d_Y_field_217 rfl (hl.at 2 rfl) ?_
                      refine z_getI hx hb hW in_9 hown hK hM t189 (by decide) rfl 28 (by decide) rfl (hW _ k_613) rfl d_Y_field_218 ?_
                      obtain ⟨b190, hb191, h⟩ := h
                      rw [hb191]
                      obtain ⟨n193, t192, h⟩ := h
                      obtain ⟨i194, h⟩ := h
                      refine z_iast hx hb hK hM hS t192 0 rfl i194 d_Y_field_221 (fun H locs hM hS => ?_)
                      obtain ⟨M195, e196⟩ : ∃ z, z = zwI M187 b190 (((3 : Int32) * x1) + x2).toNatClampNeg (zI M187 a0 28) := ⟨_, rfl⟩
                      replace h := h M195 e196
                      rw [← e196] at hM
                      refine lv_aload_n hx hb d_Y_field_222 rfl (hl.at 2 rfl) ?_
                      refine lv_dup hx hb d_Y_field_223 rfl ?_
                      have t197 : zT M195 a0 = some (9, 40) := by rw [e196]; exact t189
                      refine z_getI hx hb hW in_9 hown hK hM t197 (by decide) rfl 28 (by decide) rfl (hW _ k_613) rfl d_Y_field_224 ?_
                      refine lv_iconst (v := (1 : Int32)) hx hb d_Y_field_227 (by decide) ?_
                      refine lv_iadd hx hb d_Y_field_228 ?_
                      refine z_putI hx hb hW in_9 ty_9 tyok_9 nm_9 hown hK hM hS t197 (by decide) rfl 28 (by decide) rfl (hW _ k_613) rfl (Or.inl rfl) rfl rfl d_Y_field_229 (fun H locs hM hS => ?_)
                      obtain ⟨M198, e199⟩ : ∃ z, z = zwI M195 a0 28 ((zI M195 a0 28) + (1 : Int32)) := ⟨_, rfl⟩
                      replace h := h M198 e199
                      rw [← e199] at hM
                      refine lv_aload_n hx hb d_Y_field_232 rfl (hl.at 2 rfl) ?_
                      refine lv_dup hx hb d_Y_field_233 rfl ?_
                      have t200 : zT M198 a0 = some (9, 40) := by rw [e199]; exact t197
                      refine z_getI hx hb hW in_9 hown hK hM t200 (by decide) rfl 31 (by decide) rfl (hW _ k_616) rfl d_Y_field_234 ?_
                      refine lv_iconst (v := (1 : Int32)) hx hb d_Y_field_237 (by decide) ?_
                      refine lv_iadd hx hb d_Y_field_238 ?_
                      refine z_putI hx hb hW in_9 ty_9 tyok_9 nm_9 hown hK hM hS t200 (by decide) rfl 31 (by decide) rfl (hW _ k_616) rfl (Or.inl rfl) rfl rfl d_Y_field_239 (fun H locs hM hS => ?_)
                      obtain ⟨M201, e202⟩ : ∃ z, z = zwI M198 a0 31 ((zI M198 a0 31) + (1 : Int32)) := ⟨_, rfl⟩
                      replace h := h M201 e202
                      rw [← e202] at hM
                      refine lv_goto (tgt := 255) hx hb d_Y_field_242 rfl ?_
                      refine W.widen (k := 0) (n := 0) (by decide) (by decide) ?_
                      rw [← hQ]
                      exact z_vret hx hb hr hlk hK hM hS h d_Y_field_255
              · replace h := h.2 c169
                refine lv_iload hx hb d_Y_field_136 (hl.at 8 rfl) ?_
                refine lv_iload hx hb d_Y_field_138 (hl.at 6 rfl) ?_
                refine lv_icmp_lt (tgt := 148) hx hb d_Y_field_140 rfl (fun c203 => ?_) (fun c203 => ?_)
                · replace h := h.1 c203
                  refine W.widen (k := 0) (n := 0) (by decide) (by decide) ?_
                  exact b_148 M167 H locs ls a0 x1 x2 x3 x4 x5 x6 r13 (0 : Int32) (hl.sub [2, 3, 4, 5, 6, 7, 8, 1, 0] rfl) hM hS h
                · replace h := h.2 c203
                  refine lv_iload hx hb d_Y_field_143 (hl.at 7 rfl) ?_
                  refine lv_if_eq (tgt := 173) hx hb d_Y_field_145 rfl (fun c204 => ?_) (fun c204 => ?_)
                  · replace h := h.1 c204
                    refine lv_iload hx hb d_Y_field_173 (hl.at 8 rfl) ?_
                    refine lv_if_ge (tgt := 245) hx hb d_Y_field_175 rfl (fun c205 => ?_) (fun c205 => ?_)
                    · replace h := h.1 c205
                      refine W.widen (k := 0) (n := 0) (by decide) (by decide) ?_
                      exact b_245 M167 H locs ls a0 x1 x2 x3 x4 x5 x6 r13 (0 : Int32) (hl.sub [2, 3, 4, 5, 6, 7, 8, 1, 0] rfl) hM hS h
                    · replace h := h.2 c205
                      refine lv_iload hx hb d_Y_field_178 (hl.at 7 rfl) ?_
                      refine lv_if_eq (tgt := 245) hx hb d_Y_field_180 rfl (fun c206 => ?_) (fun c206 => ?_)
                      · replace h := h.1 c206
                        refine W.widen (k := 0) (n := 0) (by decide) (by decide) ?_
                        exact b_245 M167 H locs ls a0 x1 x2 x3 x4 x5 x6 r13 (0 : Int32) (hl.sub [2, 3, 4, 5, 6, 7, 8, 1, 0] rfl) hM hS h
                      · replace h := h.2 c206
                        refine lv_iload hx hb d_Y_field_183 (hl.at 0 rfl) ?_
                        refine lv_if_eq (tgt := 245) hx hb d_Y_field_185 rfl (fun c207 => ?_) (fun c207 => ?_)
                        · replace h := h.1 c207
                          refine W.widen (k := 0) (n := 0) (by decide) (by decide) ?_
                          exact b_245 M167 H locs ls a0 x1 x2 x3 x4 x5 x6 r13 (0 : Int32) (hl.sub [2, 3, 4, 5, 6, 7, 8, 1, 0] rfl) hM hS h
                        · replace h := h.2 c207
                          refine lv_aload_n hx hb d_Y_field_188 rfl (hl.at 2 rfl) ?_
                          obtain ⟨t208, h⟩ := h
                          refine z_getR hx hb hW in_9 hown hK hM t208 (by decide) rfl 26 (by decide) rfl (hW _ k_611) rfl d_Y_field_189 ?_
                          refine lv_aload_n hx hb d_Y_field_192 rfl (hl.at 2 rfl) ?_
                          refine z_getI hx hb hW in_9 hown hK hM t208 (by decide) rfl 28 (by decide) rfl (hW _ k_613) rfl d_Y_field_193 ?_
                          refine lv_iload_n hx hb d_Y_field_196 rfl (hl.at 4 rfl) ?_
                          obtain ⟨b209, hb210, h⟩ := h
                          rw [hb210]
                          obtain ⟨n212, t211, h⟩ := h
                          obtain ⟨i213, h⟩ := h
                          refine z_iast hx hb hK hM hS t211 0 rfl i213 d_Y_field_197 (fun H locs hM hS => ?_)
                          obtain ⟨M214, e215⟩ : ∃ z, z = zwI M167 b209 (zI M167 a0 28).toNatClampNeg x2 := ⟨_, rfl⟩
                          replace h := h M214 e215
                          rw [← e215] at hM
                          refine lv_aload_n hx hb d_Y_field_198 rfl (hl.at 2 rfl) ?_
                          have t216 : zT M214 a0 = some (9, 40) := by rw [e215]; exact t208
                          refine z_getR hx hb hW in_9 hown hK hM t216 (by decide) rfl 27 (by decide) rfl (hW _ k_612) rfl d_Y_field_199 ?_
                          refine lv_aload_n hx hb d_Y_field_202 rfl (hl.at 2 rfl) ?_
                          refine z_getI hx hb hW in_9 hown hK hM t216 (by decide) rfl 28 (by decide) rfl (hW _ k_613) rfl d_Y_field_203 ?_
                          refine lv_iload_n hx hb d_Y_field_206 rfl (hl.at 5 rfl) ?_
                          obtain ⟨b217, hb218, h⟩ := h
                          rw [hb218]
                          obtain ⟨n220, t219, h⟩ := h
                          obtain ⟨i221, h⟩ := h
                          refine z_iast hx hb hK hM hS t219 0 rfl i221 d_Y_field_207 (fun H locs hM hS => ?_)
                          obtain ⟨M222, e223⟩ : ∃ z, z = zwI M214 b217 (zI M214 a0 28).toNatClampNeg x3 := ⟨_, rfl⟩
                          replace h := h M222 e223
                          rw [← e223] at hM
                          refine lv_aload_n hx hb d_Y_field_208 rfl (hl.at 2 rfl) ?_
                          have t224 : zT M222 a0 = some (9, 40) := by rw [e223]; exact t216
                          refine z_getR hx hb hW in_9 hown hK hM t224 (by decide) rfl 20 (by decide) rfl (hW _ k_605) rfl d_Y_field_209 ?_
                          refine lv_iconst (v := (3 : Int32)) hx hb d_Y_field_212 (by decide) ?_
                          refine lv_iload_n hx hb d_Y_field_213 rfl (hl.at 3 rfl) ?_
                          refine lv_imul hx hb d_Y_field_214 ?_
                          refine lv_iload_n hx hb d_Y_field_215 rfl (hl.at 4 rfl) ?_
                          refine lv_iadd hx hb d_Y_field_216 ?_
                          refine lv_aload_n hx hb d_Y_field_217 rfl (hl.at 2 rfl) ?_
                          refine z_getI hx hb hW in_9 hown hK hM t224 (by decide) rfl 28 (by decide) rfl (hW _ k_613) rfl d_Y_field_218 ?_
                          obtain ⟨b225, hb226, h⟩ := h
                          rw [hb226]
                          obtain ⟨n228, t227, h⟩ := h
                          obtain ⟨i229, h⟩ := h
                          refine z_iast hx hb hK hM hS t227 0 rfl i229 d_Y_field_221 (fun H locs hM hS => ?_)
                          obtain ⟨M230, e231⟩ : ∃ z, z = zwI M222 b225 (((3 : Int32) * x1) + x2).toNatClampNeg (zI M222 a0 28) := ⟨_, rfl⟩
                          replace h := h M230 e231
                          rw [← e231] at hM
                          refine lv_aload_n hx hb d_Y_field_222 rfl (hl.at 2 rfl) ?_
                          refine lv_dup hx hb d_Y_field_223 rfl ?_
                          have t232 : zT M230 a0 = some (9, 40) := by rw [e231]; exact t224
                          refine z_getI hx hb hW in_9 hown hK hM t232 (by decide) rfl 28 (by decide) rfl (hW _ k_613) rfl d_Y_field_224 ?_
                          refine lv_iconst (v := (1 : Int32)) hx hb d_Y_field_227 (by decide) ?_
                          refine lv_iadd hx hb d_Y_field_228 ?_
                          refine z_putI hx hb hW in_9 ty_9 tyok_9 nm_9 hown hK hM hS t232 (by decide) rfl 28 (by decide) rfl (hW _ k_613) rfl (Or.inl rfl) rfl rfl d_Y_field_229 (fun H locs hM hS => ?_)
                          obtain ⟨M233, e234⟩ : ∃ z, z = zwI M230 a0 28 ((zI M230 a0 28) + (1 : Int32)) := ⟨_, rfl⟩
                          replace h := h M233 e234
                          rw [← e234] at hM
                          refine lv_aload_n hx hb d_Y_field_232 rfl (hl.at 2 rfl) ?_
                          refine lv_dup hx hb d_Y_field_233 rfl ?_
                          have t235 : zT M233 a0 = some (9, 40) := by rw [e234]; exact t232
                          refine z_getI hx hb hW in_9 hown hK hM t235 (by decide) rfl 31 (by decide) rfl (hW _ k_616) rfl d_Y_field_234 ?_
                          refine lv_iconst (v := (1 : Int32)) hx hb d_Y_field_237 (by decide) ?_
                          refine lv_iadd hx hb d_Y_field_238 ?_
                          refine z_putI hx hb hW in_9 ty_9 tyok_9 nm_9 hown hK hM hS t235 (by decide) rfl 31 (by decide) rfl (hW _ k_616) rfl (Or.inl rfl) rfl rfl d_Y_field_239 (fun H locs hM hS => ?_)
                          obtain ⟨M236, e237⟩ : ∃ z, z = zwI M233 a0 31 ((zI M233 a0 31) + (1 : Int32)) := ⟨_, rfl⟩
                          replace h := h M236 e237
                          rw [← e237] at hM
                          refine lv_goto (tgt := 255) hx hb d_Y_field_242 rfl ?_
                          refine W.widen (k := 0) (n := 0) (by decide) (by decide) ?_
                          rw [← hQ]
                          exact z_vret hx hb hr hlk hK hM hS h d_Y_field_255
                  · replace h := h.2 c204
                    refine W.widen (k := 0) (n := 0) (by decide) (by decide) ?_
                    exact b_148 M167 H locs ls a0 x1 x2 x3 x4 x5 x6 r13 (0 : Int32) (hl.sub [2, 3, 4, 5, 6, 7, 8, 1, 0] rfl) hM hS h
            · replace h := h.1 c168
              refine lv_iconst (v := (1 : Int32)) hx hb d_Y_field_124 (by decide) ?_
              refine lv_goto (tgt := 129) hx hb d_Y_field_125 rfl ?_
              refine z_istore hx hb d_Y_field_129 hl (by decide) rfl (fun ls hl => ?_)
              have hl : zL ls 9 [(8, .int (1 : Int32)), (7, .int r13), (0, .ref a0), (1, .int x1), (2, .int x2), (3, .int x3), (4, .int x4), (5, .int x5), (6, .int x6)] := hl
              refine lv_iload hx hb d_Y_field_131 (hl.at 8 rfl) ?_
              refine lv_if_lt (tgt := 173) hx hb d_Y_field_133 rfl (fun c238 => ?_) (fun c238 => ?_)
              · replace h := h.1 c238
                refine lv_iload hx hb d_Y_field_173 (hl.at 8 rfl) ?_
                refine lv_if_ge (tgt := 245) hx hb d_Y_field_175 rfl (fun c239 => ?_) (fun c239 => ?_)
                · replace h := h.1 c239
                  refine W.widen (k := 0) (n := 0) (by decide) (by decide) ?_
                  exact b_245 M167 H locs ls a0 x1 x2 x3 x4 x5 x6 r13 (1 : Int32) (hl.sub [2, 3, 4, 5, 6, 7, 8, 1, 0] rfl) hM hS h
                · replace h := h.2 c239
                  refine lv_iload hx hb d_Y_field_178 (hl.at 7 rfl) ?_
                  refine lv_if_eq (tgt := 245) hx hb d_Y_field_180 rfl (fun c240 => ?_) (fun c240 => ?_)
                  · replace h := h.1 c240
                    refine W.widen (k := 0) (n := 0) (by decide) (by decide) ?_
                    exact b_245 M167 H locs ls a0 x1 x2 x3 x4 x5 x6 r13 (1 : Int32) (hl.sub [2, 3, 4, 5, 6, 7, 8, 1, 0] rfl) hM hS h
                  · replace h := h.2 c240
                    refine lv_iload hx hb d_Y_field_183 (hl.at 0 rfl) ?_
                    refine lv_if_eq (tgt := 245) hx hb d_Y_field_185 rfl (fun c241 => ?_) (fun c241 => ?_)
                    · replace h := h.1 c241
                      refine W.widen (k := 0) (n := 0) (by decide) (by decide) ?_
                      exact b_245 M167 H locs ls a0 x1 x2 x3 x4 x5 x6 r13 (1 : Int32) (hl.sub [2, 3, 4, 5, 6, 7, 8, 1, 0] rfl) hM hS h
                    · replace h := h.2 c241
                      refine lv_aload_n hx hb d_Y_field_188 rfl (hl.at 2 rfl) ?_
                      obtain ⟨t242, h⟩ := h
                      refine z_getR hx hb hW in_9 hown hK hM t242 (by decide) rfl 26 (by decide) rfl (hW _ k_611) rfl d_Y_field_189 ?_
                      refine lv_aload_n hx hb d_Y_field_192 rfl (hl.at 2 rfl) ?_
                      refine z_getI hx hb hW in_9 hown hK hM t242 (by decide) rfl 28 (by decide) rfl (hW _ k_613) rfl d_Y_field_193 ?_
                      refine lv_iload_n hx hb d_Y_field_196 rfl (hl.at 4 rfl) ?_
                      obtain ⟨b243, hb244, h⟩ := h
                      rw [hb244]
                      obtain ⟨n246, t245, h⟩ := h
                      obtain ⟨i247, h⟩ := h
                      refine z_iast hx hb hK hM hS t245 0 rfl i247 d_Y_field_197 (fun H locs hM hS => ?_)
                      obtain ⟨M248, e249⟩ : ∃ z, z = zwI M167 b243 (zI M167 a0 28).toNatClampNeg x2 := ⟨_, rfl⟩
                      replace h := h M248 e249
                      rw [← e249] at hM
                      refine lv_aload_n hx hb d_Y_field_198 rfl (hl.at 2 rfl) ?_
                      have t250 : zT M248 a0 = some (9, 40) := by rw [e249]; exact t242
                      refine z_getR hx hb hW in_9 hown hK hM t250 (by decide) rfl 27 (by decide) rfl (hW _ k_612) rfl d_Y_field_199 ?_
                      refine lv_aload_n hx hb d_Y_field_202 rfl (hl.at 2 rfl) ?_
                      refine z_getI hx hb hW in_9 hown hK hM t250 (by decide) rfl 28 (by decide) rfl (hW _ k_613) rfl d_Y_field_203 ?_
                      refine lv_iload_n hx hb d_Y_field_206 rfl (hl.at 5 rfl) ?_
                      obtain ⟨b251, hb252, h⟩ := h
                      rw [hb252]
                      obtain ⟨n254, t253, h⟩ := h
                      obtain ⟨i255, h⟩ := h
                      refine z_iast hx hb hK hM hS t253 0 rfl i255 d_Y_field_207 (fun H locs hM hS => ?_)
                      obtain ⟨M256, e257⟩ : ∃ z, z = zwI M248 b251 (zI M248 a0 28).toNatClampNeg x3 := ⟨_, rfl⟩
                      replace h := h M256 e257
                      rw [← e257] at hM
                      refine lv_aload_n hx hb d_Y_field_208 rfl (hl.at 2 rfl) ?_
                      have t258 : zT M256 a0 = some (9, 40) := by rw [e257]; exact t250
                      refine z_getR hx hb hW in_9 hown hK hM t258 (by decide) rfl 20 (by decide) rfl (hW _ k_605) rfl d_Y_field_209 ?_
                      refine lv_iconst (v := (3 : Int32)) hx hb d_Y_field_212 (by decide) ?_
                      refine lv_iload_n hx hb d_Y_field_213 rfl (hl.at 3 rfl) ?_
                      refine lv_imul hx hb d_Y_field_214 ?_
                      refine lv_iload_n hx hb d_Y_field_215 rfl (hl.at 4 rfl) ?_
                      refine lv_iadd hx hb d_Y_field_216 ?_
                      refine lv_aload_n hx hb d_Y_field_217 rfl (hl.at 2 rfl) ?_
                      refine z_getI hx hb hW in_9 hown hK hM t258 (by decide) rfl 28 (by decide) rfl (hW _ k_613) rfl d_Y_field_218 ?_
                      obtain ⟨b259, hb260, h⟩ := h
                      rw [hb260]
                      obtain ⟨n262, t261, h⟩ := h
                      obtain ⟨i263, h⟩ := h
                      refine z_iast hx hb hK hM hS t261 0 rfl i263 d_Y_field_221 (fun H locs hM hS => ?_)
                      obtain ⟨M264, e265⟩ : ∃ z, z = zwI M256 b259 (((3 : Int32) * x1) + x2).toNatClampNeg (zI M256 a0 28) := ⟨_, rfl⟩
                      replace h := h M264 e265
                      rw [← e265] at hM
                      refine lv_aload_n hx hb d_Y_field_222 rfl (hl.at 2 rfl) ?_
                      refine lv_dup hx hb d_Y_field_223 rfl ?_
                      have t266 : zT M264 a0 = some (9, 40) := by rw [e265]; exact t258
                      refine z_getI hx hb hW in_9 hown hK hM t266 (by decide) rfl 28 (by decide) rfl (hW _ k_613) rfl d_Y_field_224 ?_
                      refine lv_iconst (v := (1 : Int32)) hx hb d_Y_field_227 (by decide) ?_
                      refine lv_iadd hx hb d_Y_field_228 ?_
                      refine z_putI hx hb hW in_9 ty_9 tyok_9 nm_9 hown hK hM hS t266 (by decide) rfl 28 (by decide) rfl (hW _ k_613) rfl (Or.inl rfl) rfl rfl d_Y_field_229 (fun H locs hM hS => ?_)
                      obtain ⟨M267, e268⟩ : ∃ z, z = zwI M264 a0 28 ((zI M264 a0 28) + (1 : Int32)) := ⟨_, rfl⟩
                      replace h := h M267 e268
                      rw [← e268] at hM
                      refine lv_aload_n hx hb d_Y_field_232 rfl (hl.at 2 rfl) ?_
                      refine lv_dup hx hb d_Y_field_233 rfl ?_
                      have t269 : zT M267 a0 = some (9, 40) := by rw [e268]; exact t266
                      refine z_getI hx hb hW in_9 hown hK hM t269 (by decide) rfl 31 (by decide) rfl (hW _ k_616) rfl d_Y_field_234 ?_
                      refine lv_iconst (v := (1 : Int32)) hx hb d_Y_field_237 (by decide) ?_
                      refine lv_iadd hx hb d_Y_field_238 ?_
                      refine z_putI hx hb hW in_9 ty_9 tyok_9 nm_9 hown hK hM hS t269 (by decide) rfl 31 (by decide) rfl (hW _ k_616) rfl (Or.inl rfl) rfl rfl d_Y_field_239 (fun H locs hM hS => ?_)
                      obtain ⟨M270, e271⟩ : ∃ z, z = zwI M267 a0 31 ((zI M267 a0 31) + (1 : Int32)) := ⟨_, rfl⟩
                      replace h := h M270 e271
                      rw [← e271] at hM
                      refine lv_goto (tgt := 255) hx hb d_Y_field_242 rfl ?_
                      refine W.widen (k := 0) (n := 0) (by decide) (by decide) ?_
                      rw [← hQ]
                      exact z_vret hx hb hr hlk hK hM hS h d_Y_field_255
              · replace h := h.2 c238
                refine lv_iload hx hb d_Y_field_136 (hl.at 8 rfl) ?_
                refine lv_iload hx hb d_Y_field_138 (hl.at 6 rfl) ?_
                refine lv_icmp_lt (tgt := 148) hx hb d_Y_field_140 rfl (fun c272 => ?_) (fun c272 => ?_)
                · replace h := h.1 c272
                  refine W.widen (k := 0) (n := 0) (by decide) (by decide) ?_
                  exact b_148 M167 H locs ls a0 x1 x2 x3 x4 x5 x6 r13 (1 : Int32) (hl.sub [2, 3, 4, 5, 6, 7, 8, 1, 0] rfl) hM hS h
                · replace h := h.2 c272
                  refine lv_iload hx hb d_Y_field_143 (hl.at 7 rfl) ?_
                  refine lv_if_eq (tgt := 173) hx hb d_Y_field_145 rfl (fun c273 => ?_) (fun c273 => ?_)
                  · replace h := h.1 c273
                    refine lv_iload hx hb d_Y_field_173 (hl.at 8 rfl) ?_
                    refine lv_if_ge (tgt := 245) hx hb d_Y_field_175 rfl (fun c274 => ?_) (fun c274 => ?_)
                    · replace h := h.1 c274
                      refine W.widen (k := 0) (n := 0) (by decide) (by decide) ?_
                      exact b_245 M167 H locs ls a0 x1 x2 x3 x4 x5 x6 r13 (1 : Int32) (hl.sub [2, 3, 4, 5, 6, 7, 8, 1, 0] rfl) hM hS h
                    · replace h := h.2 c274
                      refine lv_iload hx hb d_Y_field_178 (hl.at 7 rfl) ?_
                      refine lv_if_eq (tgt := 245) hx hb d_Y_field_180 rfl (fun c275 => ?_) (fun c275 => ?_)
                      · replace h := h.1 c275
                        refine W.widen (k := 0) (n := 0) (by decide) (by decide) ?_
                        exact b_245 M167 H locs ls a0 x1 x2 x3 x4 x5 x6 r13 (1 : Int32) (hl.sub [2, 3, 4, 5, 6, 7, 8, 1, 0] rfl) hM hS h
                      · replace h := h.2 c275
                        refine lv_iload hx hb d_Y_field_183 (hl.at 0 rfl) ?_
                        refine lv_if_eq (tgt := 245) hx hb d_Y_field_185 rfl (fun c276 => ?_) (fun c276 => ?_)
                        · replace h := h.1 c276
                          refine W.widen (k := 0) (n := 0) (by decide) (by decide) ?_
                          exact b_245 M167 H locs ls a0 x1 x2 x3 x4 x5 x6 r13 (1 : Int32) (hl.sub [2, 3, 4, 5, 6, 7, 8, 1, 0] rfl) hM hS h
                        · replace h := h.2 c276
                          refine lv_aload_n hx hb d_Y_field_188 rfl (hl.at 2 rfl) ?_
                          obtain ⟨t277, h⟩ := h
                          refine z_getR hx hb hW in_9 hown hK hM t277 (by decide) rfl 26 (by decide) rfl (hW _ k_611) rfl d_Y_field_189 ?_
                          refine lv_aload_n hx hb d_Y_field_192 rfl (hl.at 2 rfl) ?_
                          refine z_getI hx hb hW in_9 hown hK hM t277 (by decide) rfl 28 (by decide) rfl (hW _ k_613) rfl d_Y_field_193 ?_
                          refine lv_iload_n hx hb d_Y_field_196 rfl (hl.at 4 rfl) ?_
                          obtain ⟨b278, hb279, h⟩ := h
                          rw [hb279]
                          obtain ⟨n281, t280, h⟩ := h
                          obtain ⟨i282, h⟩ := h
                          refine z_iast hx hb hK hM hS t280 0 rfl i282 d_Y_field_197 (fun H locs hM hS => ?_)
                          obtain ⟨M283, e284⟩ : ∃ z, z = zwI M167 b278 (zI M167 a0 28).toNatClampNeg x2 := ⟨_, rfl⟩
                          replace h := h M283 e284
                          rw [← e284] at hM
                          refine lv_aload_n hx hb d_Y_field_198 rfl (hl.at 2 rfl) ?_
                          have t285 : zT M283 a0 = some (9, 40) := by rw [e284]; exact t277
                          refine z_getR hx hb hW in_9 hown hK hM t285 (by decide) rfl 27 (by decide) rfl (hW _ k_612) rfl d_Y_field_199 ?_
                          refine lv_aload_n hx hb d_Y_field_202 rfl (hl.at 2 rfl) ?_
                          refine z_getI hx hb hW in_9 hown hK hM t285 (by decide) rfl 28 (by decide) rfl (hW _ k_613) rfl d_Y_field_203 ?_
                          refine lv_iload_n hx hb d_Y_field_206 rfl (hl.at 5 rfl) ?_
                          obtain ⟨b286, hb287, h⟩ := h
                          rw [hb287]
                          obtain ⟨n289, t288, h⟩ := h
                          obtain ⟨i290, h⟩ := h
                          refine z_iast hx hb hK hM hS t288 0 rfl i290 d_Y_field_207 (fun H locs hM hS => ?_)
                          obtain ⟨M291, e292⟩ : ∃ z, z = zwI M283 b286 (zI M283 a0 28).toNatClampNeg x3 := ⟨_, rfl⟩
                          replace h := h M291 e292
                          rw [← e292] at hM
                          refine lv_aload_n hx hb d_Y_field_208 rfl (hl.at 2 rfl) ?_
                          have t293 : zT M291 a0 = some (9, 40) := by rw [e292]; exact t285
                          refine z_getR hx hb hW in_9 hown hK hM t293 (by decide) rfl 20 (by decide) rfl (hW _ k_605) rfl d_Y_field_209 ?_
                          refine lv_iconst (v := (3 : Int32)) hx hb d_Y_field_212 (by decide) ?_
                          refine lv_iload_n hx hb d_Y_field_213 rfl (hl.at 3 rfl) ?_
                          refine lv_imul hx hb d_Y_field_214 ?_
                          refine lv_iload_n hx hb d_Y_field_215 rfl (hl.at 4 rfl) ?_
                          refine lv_iadd hx hb d_Y_field_216 ?_
                          refine lv_aload_n hx hb d_Y_field_217 rfl (hl.at 2 rfl) ?_
                          refine z_getI hx hb hW in_9 hown hK hM t293 (by decide) rfl 28 (by decide) rfl (hW _ k_613) rfl d_Y_field_218 ?_
                          obtain ⟨b294, hb295, h⟩ := h
                          rw [hb295]
                          obtain ⟨n297, t296, h⟩ := h
                          obtain ⟨i298, h⟩ := h
                          refine z_iast hx hb hK hM hS t296 0 rfl i298 d_Y_field_221 (fun H locs hM hS => ?_)
                          obtain ⟨M299, e300⟩ : ∃ z, z = zwI M291 b294 (((3 : Int32) * x1) + x2).toNatClampNeg (zI M291 a0 28) := ⟨_, rfl⟩
                          replace h := h M299 e300
                          rw [← e300] at hM
                          refine lv_aload_n hx hb d_Y_field_222 rfl (hl.at 2 rfl) ?_
                          refine lv_dup hx hb d_Y_field_223 rfl ?_
                          have t301 : zT M299 a0 = some (9, 40) := by rw [e300]; exact t293
                          refine z_getI hx hb hW in_9 hown hK hM t301 (by decide) rfl 28 (by decide) rfl (hW _ k_613) rfl d_Y_field_224 ?_
                          refine lv_iconst (v := (1 : Int32)) hx hb d_Y_field_227 (by decide) ?_
                          refine lv_iadd hx hb d_Y_field_228 ?_
                          refine z_putI hx hb hW in_9 ty_9 tyok_9 nm_9 hown hK hM hS t301 (by decide) rfl 28 (by decide) rfl (hW _ k_613) rfl (Or.inl rfl) rfl rfl d_Y_field_229 (fun H locs hM hS => ?_)
                          obtain ⟨M302, e303⟩ : ∃ z, z = zwI M299 a0 28 ((zI M299 a0 28) + (1 : Int32)) := ⟨_, rfl⟩
                          replace h := h M302 e303
                          rw [← e303] at hM
                          refine lv_aload_n hx hb d_Y_field_232 rfl (hl.at 2 rfl) ?_
                          refine lv_dup hx hb d_Y_field_233 rfl ?_
                          have t304 : zT M302 a0 = some (9, 40) := by rw [e303]; exact t301
                          refine z_getI hx hb hW in_9 hown hK hM t304 (by decide) rfl 31 (by decide) rfl (hW _ k_616) rfl d_Y_field_234 ?_
                          refine lv_iconst (v := (1 : Int32)) hx hb d_Y_field_237 (by decide) ?_
                          refine lv_iadd hx hb d_Y_field_238 ?_
                          refine z_putI hx hb hW in_9 ty_9 tyok_9 nm_9 hown hK hM hS t304 (by decide) rfl 31 (by decide) rfl (hW _ k_616) rfl (Or.inl rfl) rfl rfl d_Y_field_239 (fun H locs hM hS => ?_)
                          obtain ⟨M305, e306⟩ : ∃ z, z = zwI M302 a0 31 ((zI M302 a0 31) + (1 : Int32)) := ⟨_, rfl⟩
                          replace h := h M305 e306
                          rw [← e306] at hM
                          refine lv_goto (tgt := 255) hx hb d_Y_field_242 rfl ?_
                          refine W.widen (k := 0) (n := 0) (by decide) (by decide) ?_
                          rw [← hQ]
                          exact z_vret hx hb hr hlk hK hM hS h d_Y_field_255
                  · replace h := h.2 c273
                    refine W.widen (k := 0) (n := 0) (by decide) (by decide) ?_
                    exact b_148 M167 H locs ls a0 x1 x2 x3 x4 x5 x6 r13 (1 : Int32) (hl.sub [2, 3, 4, 5, 6, 7, 8, 1, 0] rfl) hM hS h
      · replace h := h.2 c12
        refine lv_aload_n hx hb d_Y_field_56 rfl (hl.at 0 rfl) ?_
        refine z_getR hx hb hW in_9 hown hK hM t11 (by decide) rfl 26 (by decide) rfl (hW _ k_611) rfl d_Y_field_57 ?_
        refine lv_iload hx hb d_Y_field_60 (hl.at 7 rfl) ?_
        obtain ⟨b307, hb308, h⟩ := h
        rw [hb308]
        obtain ⟨n310, t309, h⟩ := h
        obtain ⟨i311, h⟩ := h
        refine z_iald hx hb hK hM t309 0 rfl i311 d_Y_field_62 ?_
        refine lv_iload_n hx hb d_Y_field_63 rfl (hl.at 2 rfl) ?_
        refine lv_icmp_ne (tgt := 83) hx hb d_Y_field_64 rfl (fun c312 => ?_) (fun c312 => ?_)
        · replace h := h.2 c312
          refine lv_iload hx hb d_Y_field_83 (hl.at 6 rfl) ?_
          refine z_istore hx hb d_Y_field_85 hl (by decide) rfl (fun ls hl => ?_)
          have hl : zL ls 9 [(6, .int x6), (0, .ref a0), (1, .int x1), (2, .int x2), (3, .int x3), (4, .int x4), (5, .int x5), (7, .int x7)] := hl
          refine z_iinc (k := 7) (v := x7 + (1 : Int32)) hx hb d_Y_field_87 hl rfl rfl (by decide) rfl (fun ls hl => ?_)
          have hl : zL ls 9 [(7, .int (x7 + (1 : Int32))), (6, .int x6), (0, .ref a0), (1, .int x1), (2, .int x2), (3, .int x3), (4, .int x4), (5, .int x5)] := hl
          refine lv_goto (tgt := 47) hx hb d_Y_field_90 rfl ?_
          exact ih M H locs ls a0 x1 x2 x3 x4 x5 x6 (x7 + (1 : Int32)) (hl.sub [2, 3, 4, 5, 6, 7, 1, 0] rfl) hM hS h
        · replace h := h.1 c312
          refine lv_aload_n hx hb d_Y_field_67 rfl (hl.at 0 rfl) ?_
          refine z_getR hx hb hW in_9 hown hK hM t11 (by decide) rfl 27 (by decide) rfl (hW _ k_612) rfl d_Y_field_68 ?_
          refine lv_iload hx hb d_Y_field_71 (hl.at 7 rfl) ?_
          obtain ⟨b313, hb314, h⟩ := h
          rw [hb314]
          obtain ⟨n316, t315, h⟩ := h
          obtain ⟨i317, h⟩ := h
          refine z_iald hx hb hK hM t315 0 rfl i317 d_Y_field_73 ?_
          refine lv_iload_n hx hb d_Y_field_74 rfl (hl.at 3 rfl) ?_
          refine lv_icmp_ne (tgt := 83) hx hb d_Y_field_75 rfl (fun c318 => ?_) (fun c318 => ?_)
          · replace h := h.2 c318
            refine lv_iload hx hb d_Y_field_83 (hl.at 6 rfl) ?_
            refine z_istore hx hb d_Y_field_85 hl (by decide) rfl (fun ls hl => ?_)
            have hl : zL ls 9 [(6, .int x6), (0, .ref a0), (1, .int x1), (2, .int x2), (3, .int x3), (4, .int x4), (5, .int x5), (7, .int x7)] := hl
            refine z_iinc (k := 7) (v := x7 + (1 : Int32)) hx hb d_Y_field_87 hl rfl rfl (by decide) rfl (fun ls hl => ?_)
            have hl : zL ls 9 [(7, .int (x7 + (1 : Int32))), (6, .int x6), (0, .ref a0), (1, .int x1), (2, .int x2), (3, .int x3), (4, .int x4), (5, .int x5)] := hl
            refine lv_goto (tgt := 47) hx hb d_Y_field_90 rfl ?_
            exact ih M H locs ls a0 x1 x2 x3 x4 x5 x6 (x7 + (1 : Int32)) (hl.sub [2, 3, 4, 5, 6, 7, 1, 0] rfl) hM hS h
          · replace h := h.1 c318
            refine lv_iload hx hb d_Y_field_78 (hl.at 7 rfl) ?_
            refine lv_goto (tgt := 85) hx hb d_Y_field_80 rfl ?_
            refine z_istore hx hb d_Y_field_85 hl (by decide) rfl (fun ls hl => ?_)
            have hl : zL ls 9 [(6, .int x7), (0, .ref a0), (1, .int x1), (2, .int x2), (3, .int x3), (4, .int x4), (5, .int x5), (7, .int x7)] := hl
            refine z_iinc (k := 7) (v := x7 + (1 : Int32)) hx hb d_Y_field_87 hl rfl rfl (by decide) rfl (fun ls hl => ?_)
            have hl : zL ls 9 [(7, .int (x7 + (1 : Int32))), (6, .int x7), (0, .ref a0), (1, .int x1), (2, .int x2), (3, .int x3), (4, .int x4), (5, .int x5)] := hl
            refine lv_goto (tgt := 47) hx hb d_Y_field_90 rfl ?_
            exact ih M H locs ls a0 x1 x2 x3 x4 x5 x7 (x7 + (1 : Int32)) (hl.sub [2, 3, 4, 5, 6, 7, 1, 0] rfl) hM hS h
  have b_36 : ∀ (M : zM) (H : Heap) (locs : List Loc) (ls : Array Slot) (a0 : Nat) (x1 : Int32) (x2 : Int32) (x3 : Int32) (x4 : Int32) (u0 : Int32), zL ls 9 [(0, .ref a0), (1, .int x1), (2, .int x2), (3, .int x3), (4, .int x4)] → zW ca D zcl A M H → va_S A s.heap H locs → w_Y_field_36 post M a0 x1 x2 x3 x4 u0 → W p l e rm_Y_field s m args below meth c H locs 0 0 Q (F0 m 36 ls [.int u0]) := by
    intro M H locs ls a0 x1 x2 x3 x4 u0 hl hM hS h
    unfold w_Y_field_36 at h
    refine z_istore hx hb d_Y_field_36 hl (by decide) rfl (fun ls hl => ?_)
    have hl : zL ls 9 [(5, .int u0), (0, .ref a0), (1, .int x1), (2, .int x2), (3, .int x3), (4, .int x4)] := hl
    refine lv_iconst (v := (-1 : Int32)) hx hb d_Y_field_38 (by decide) ?_
    refine z_istore hx hb d_Y_field_39 hl (by decide) rfl (fun ls hl => ?_)
    have hl : zL ls 9 [(6, .int (-1 : Int32)), (5, .int u0), (0, .ref a0), (1, .int x1), (2, .int x2), (3, .int x3), (4, .int x4)] := hl
    refine lv_aload_n hx hb d_Y_field_41 rfl (hl.at 2 rfl) ?_
    obtain ⟨t8, h⟩ := h
    refine z_cti (mc := 0) (ms := 0) (va_runV (As := []) (rest := []) ⟨hx, hb, hml, hown, hW⟩ (c_Y_oldest l ca D M H.size a0 _) (cw_Y_oldest hW k_750 ⟨by decide, by decide⟩) (zPre_V hK hN hM h t8 (by decide) rfl) rfl rfl hl.1.1 rfl (lv_room (Nat.le_of_ble_eq_true rfl)) d_Y_field_42 ⟨by decide, by decide⟩) hM hS hA (fun r9 M10 H locs h hM hS => ?_)
    refine z_istore hx hb d_Y_field_45 hl (by decide) rfl (fun ls hl => ?_)
    have hl : zL ls 9 [(7, .int r9), (6, .int (-1 : Int32)), (5, .int u0), (0, .ref a0), (1, .int x1), (2, .int x2), (3, .int x3), (4, .int x4)] := hl
    refine W.widen (k := 0) (n := 0) (by decide) (by decide) ?_
    obtain ⟨n319, h⟩ := h
    exact b_47 n319 M10 H locs ls a0 x1 x2 x3 x4 u0 (-1 : Int32) r9 (hl.sub [3, 4, 5, 6, 7, 2, 1, 0] rfl) hM hS h
  have b_start : ∀ (M : zM) (H : Heap) (locs : List Loc) (ls : Array Slot) (a0 : Nat) (x1 : Int32) (x2 : Int32) (x3 : Int32), zL ls 9 [(0, .ref a0), (1, .int x1), (2, .int x2), (3, .int x3)] → zW ca D zcl A M H → va_S A s.heap H locs → w_Y_field M a0 x1 x2 x3 post → W p l e rm_Y_field s m args below meth c H locs 0 0 Q (F0 m 0 ls []) := by
    intro M H locs ls a0 x1 x2 x3 hl hM hS h
    unfold w_Y_field at h
    refine lv_aload_n hx hb d_Y_field_0 rfl (hl.at 0 rfl) ?_
    refine lv_aload_n hx hb d_Y_field_1 rfl (hl.at 0 rfl) ?_
    obtain ⟨t1, h⟩ := h
    refine z_getI hx hb hW in_9 hown hK hM t1 (by decide) rfl 35 (by decide) rfl (hW _ k_620) rfl d_Y_field_2 ?_
    refine z_cti (mc := 0) (ms := 0) (va_runV (As := [.int (zI M a0 35)]) (rest := []) ⟨hx, hb, hml, hown, hW⟩ (c_Y_after l ca D M H.size a0 (zI M a0 35) _) (cw_Y_after hW k_734 ⟨by decide, by decide⟩) (zPre_V hK hN hM h t1 (by decide) rfl) rfl rfl hl.1.1 rfl (lv_room (Nat.le_of_ble_eq_true rfl)) d_Y_field_5 ⟨by decide, by decide⟩) hM hS hA (fun r2 M3 H locs h hM hS => ?_)
    refine z_istore hx hb d_Y_field_8 hl (by decide) rfl (fun ls hl => ?_)
    have hl : zL ls 9 [(4, .int r2), (0, .ref a0), (1, .int x1), (2, .int x2), (3, .int x3)] := hl
    refine lv_aload_n hx hb d_Y_field_10 rfl (hl.at 1 rfl) ?_
    refine lv_iload_n hx hb d_Y_field_11 rfl (hl.at 2 rfl) ?_
    obtain ⟨t4, h⟩ := h
    refine z_cti (mc := 0) (ms := 0) (va_runV (As := [.int x1]) (rest := []) ⟨hx, hb, hml, hown, hW⟩ (c_Y_need l ca D M3 H.size a0 x1 _) (cw_Y_need hW k_738 ⟨by decide, by decide⟩) (zPre_V hK hN hM h t4 (by decide) rfl) rfl rfl hl.1.1 rfl (lv_room (Nat.le_of_ble_eq_true rfl)) d_Y_field_12 ⟨by decide, by decide⟩) hM hS hA (fun r5 M6 H locs h hM hS => ?_)
    refine lv_iload hx hb d_Y_field_15 (hl.at 0 rfl) ?_
    refine lv_icmp_gt (tgt := 31) hx hb d_Y_field_17 rfl (fun c7 => ?_) (fun c7 => ?_)
    · replace h := h.1 c7
      refine lv_iconst (v := (1 : Int32)) hx hb d_Y_field_31 (by decide) ?_
      refine lv_goto (tgt := 36) hx hb d_Y_field_32 rfl ?_
      refine W.widen (k := 0) (n := 0) (by decide) (by decide) ?_
      exact b_36 M6 H locs ls a0 x1 x2 x3 r2 (1 : Int32) (hl.sub [1, 2, 3, 4, 0] rfl) hM hS h
    · replace h := h.2 c7
      refine lv_aload_n hx hb d_Y_field_20 rfl (hl.at 1 rfl) ?_
      refine lv_iload hx hb d_Y_field_21 (hl.at 0 rfl) ?_
      refine lv_iload_n hx hb d_Y_field_23 rfl (hl.at 2 rfl) ?_
      obtain ⟨t320, h⟩ := h
      refine z_cti (mc := 0) (ms := 0) (va_runV (As := [.int r2, .int x1]) (rest := []) ⟨hx, hb, hml, hown, hW⟩ (c_Y_risky l ca D M6 H.size a0 r2 x1 _) (cw_Y_risky hW k_742 ⟨by decide, by decide⟩) (zPre_V hK hN hM h t320 (by decide) rfl) rfl rfl hl.1.1 rfl (lv_room (Nat.le_of_ble_eq_true rfl)) d_Y_field_24 ⟨by decide, by decide⟩) hM hS hA (fun r321 M322 H locs h hM hS => ?_)
      refine lv_iconst (v := (2 : Int32)) hx hb d_Y_field_27 (by decide) ?_
      refine lv_icmp_ge (tgt := 35) hx hb d_Y_field_28 rfl (fun c323 => ?_) (fun c323 => ?_)
      · replace h := h.1 c323
        refine lv_iconst (v := (0 : Int32)) hx hb d_Y_field_35 (by decide) ?_
        refine W.widen (k := 0) (n := 0) (by decide) (by decide) ?_
        exact b_36 M322 H locs ls a0 x1 x2 x3 r2 (0 : Int32) (hl.sub [1, 2, 3, 4, 0] rfl) hM hS h
      · replace h := h.2 c323
        refine lv_iconst (v := (1 : Int32)) hx hb d_Y_field_31 (by decide) ?_
        refine lv_goto (tgt := 36) hx hb d_Y_field_32 rfl ?_
        refine W.widen (k := 0) (n := 0) (by decide) (by decide) ?_
        exact b_36 M322 H locs ls a0 x1 x2 x3 r2 (1 : Int32) (hl.sub [1, 2, 3, 4, 0] rfl) hM hS h
  exact b_start M s.heap [] ls a0 x1 x2 x3 hl hM hS h
