set_option maxHeartbeats 4000000 in
set_option maxRecDepth 100000 in
theorem c_Y_drop (l : Launch) (ca : Nat → ClassId) (D : va_G) (M : zM) (sz : Nat) (a0 : Nat) (x1 : Int32) (post : Int32 → zM → Prop) : Met l y_Y_drop (Cond.code y_Y_drop prog_11_method_12_code 2 (some .boolean) :: zws) rm_Y_drop (zPre ca D zcl (ztys ca) [.ref a0, .int x1] M sz (w_Y_drop M a0 x1 post)) (va_Qi post (zB ca D zcl (ztys ca) (zA M sz)) (zA M sz)) 0 0 (zA M sz) := by
  refine z_met (cc := prog_11_method_12_code) (maxL := 2) (ret := (some .boolean)) (plainFor_of_name (by decide)) rfl (by simp [Value.category]) (Nat.le_of_ble_eq_true rfl) ?_
  intro p e s m args below meth c ls A hx hb hr hlk hml hts hown hnm hK hN hl hA0 hM hS hA h
  rw [← hA0]
  have hW : ∀ w ∈ zws, w.before args s = true := fun w hw => hts w (List.mem_cons_of_mem _ hw)
  have hl : zL ls 2 [(0, .ref a0), (1, .int x1)] := hl
  generalize hQ : MQ below (va_Qi post (zB ca D zcl (ztys ca) A) A) args s 0 0 A = Q
  have b_start : ∀ (M : zM) (H : Heap) (locs : List Loc) (ls : Array Slot) (a0 : Nat) (x1 : Int32), zL ls 2 [(0, .ref a0), (1, .int x1)] → zW ca D zcl A M H → va_S A s.heap H locs → w_Y_drop M a0 x1 post → W p l e rm_Y_drop s m args below meth c H locs 0 0 Q (F0 m 0 ls []) := by
    intro M H locs ls a0 x1 hl hM hS h
    unfold w_Y_drop at h
    refine lv_iload_n hx hb d_Y_drop_0 rfl (hl.at 1 rfl) ?_
    refine lv_iconst (v := (5 : Int32)) hx hb d_Y_drop_1 (by decide) ?_
    refine z_cti (mc := 0) (ms := 0) (va_runS (As := [.int x1, .int (5 : Int32)]) (rest := []) ⟨hx, hb, hml, hown, hW⟩ (c_Y_within l ca D M H.size x1 (5 : Int32) _) (cw_Y_within hW k_711 ⟨by decide, by decide⟩) (zPre_S hK hN hM h) rfl rfl hl.1.1 rfl (lv_room (Nat.le_of_ble_eq_true rfl)) d_Y_drop_2 ⟨by decide, by decide⟩) hM hS hA (fun r1 M2 H locs h hM hS => ?_)
    refine lv_if_eq (tgt := 17) hx hb d_Y_drop_5 rfl (fun c3 => ?_) (fun c3 => ?_)
    · replace h := h.1 c3
      refine lv_iconst (v := (0 : Int32)) hx hb d_Y_drop_17 (by decide) ?_
      refine W.widen (k := 0) (n := 0) (by decide) (by decide) ?_
      rw [← hQ]
      exact z_zret hx hb hr hlk rfl hK hM hS h d_Y_drop_18
    · replace h := h.2 c3
      refine lv_aload_n hx hb d_Y_drop_8 rfl (hl.at 0 rfl) ?_
      obtain ⟨t4, h⟩ := h
      refine z_getR hx hb hW in_9 hown hK hM t4 (by decide) rfl 0 (by decide) rfl (hW _ k_585) rfl d_Y_drop_9 ?_
      refine lv_iload_n hx hb d_Y_drop_12 rfl (hl.at 1 rfl) ?_
      obtain ⟨b5, hb6, h⟩ := h
      rw [hb6]
      obtain ⟨n8, t7, h⟩ := h
      obtain ⟨i9, h⟩ := h
      refine z_zald hx hb hK hM t7 1 rfl i9 d_Y_drop_13 ?_
      refine lv_if_ne (tgt := 19) hx hb d_Y_drop_14 rfl (fun c10 => ?_) (fun c10 => ?_)
      · replace h := h.2 c10
        refine lv_aload_n hx hb d_Y_drop_19 rfl (hl.at 0 rfl) ?_
        refine z_getR hx hb hW in_9 hown hK hM t4 (by decide) rfl 0 (by decide) rfl (hW _ k_585) rfl d_Y_drop_20 ?_
        refine lv_iload_n hx hb d_Y_drop_23 rfl (hl.at 1 rfl) ?_
        refine lv_iconst (v := (0 : Int32)) hx hb d_Y_drop_24 (by decide) ?_
        obtain ⟨b11, hb12, h⟩ := h
        rw [hb12]
        obtain ⟨n14, t13, h⟩ := h
        obtain ⟨i15, h⟩ := h
        refine z_zast hx hb hK hM hS t13 1 rfl i15 d_Y_drop_25 (fun H locs hM hS => ?_)
        obtain ⟨M16, e17⟩ : ∃ z, z = zwI M2 b11 x1.toNatClampNeg (vp_nar .boolean (0 : Int32)) := ⟨_, rfl⟩
        replace h := h M16 e17
        rw [← e17] at hM
        refine lv_iconst (v := (1 : Int32)) hx hb d_Y_drop_26 (by decide) ?_
        refine W.widen (k := 0) (n := 0) (by decide) (by decide) ?_
        rw [← hQ]
        exact z_zret hx hb hr hlk rfl hK hM hS h d_Y_drop_27
      · replace h := h.1 c10
        refine lv_iconst (v := (0 : Int32)) hx hb d_Y_drop_17 (by decide) ?_
        refine W.widen (k := 0) (n := 0) (by decide) (by decide) ?_
        rw [← hQ]
        exact z_zret hx hb hr hlk rfl hK hM hS h d_Y_drop_18
  exact b_start M s.heap [] ls a0 x1 hl hM hS h
set_option maxHeartbeats 4000000 in
set_option maxRecDepth 100000 in
theorem c_Y_field (l : Launch) (ca : Nat → ClassId) (D : va_G) (M : zM) (sz : Nat) (a0 : Nat) (x1 : Int32) (x2 : Int32) (x3 : Int32) (post : zM → Prop) : Met l y_Y_field (Cond.code y_Y_field prog_11_method_13_code 9 none :: zws) rm_Y_field (zPre ca D zcl (ztys ca) [.ref a0, .int x1, .int x2, .int x3] M sz (w_Y_field M a0 x1 x2 x3 post)) (va_Qv post (zB ca D zcl (ztys ca) (zA M sz)) (zA M sz)) 0 0 (zA M sz) := by
  refine z_met (cc := prog_11_method_13_code) (maxL := 9) (ret := none) (plainFor_of_name (by decide)) rfl (by simp [Value.category]) (Nat.le_of_ble_eq_true rfl) ?_
  intro p e s m args below meth c ls A hx hb hr hlk hml hts hown hnm hK hN hl hA0 hM hS hA h
  rw [← hA0]
  have hW : ∀ w ∈ zws, w.before args s = true := fun w hw => hts w (List.mem_cons_of_mem _ hw)
  have hl : zL ls 9 [(0, .ref a0), (1, .int x1), (2, .int x2), (3, .int x3)] := hl
  generalize hQ : MQ below (va_Qv post (zB ca D zcl (ztys ca) A) A) args s 0 0 A = Q
  have b_255 : ∀ (M : zM) (H : Heap) (locs : List Loc) (ls : Array Slot) (a0 : Nat) (x1 : Int32) (x2 : Int32) (x3 : Int32) (x4 : Int32) (x5 : Int32) (x6 : Int32) (x7 : Int32) (x8 : Int32), zL ls 9 [(0, .ref a0), (1, .int x1), (2, .int x2), (3, .int x3), (4, .int x4), (5, .int x5), (6, .int x6), (7, .int x7), (8, .int x8)] → zW ca D zcl A M H → va_S A s.heap H locs → w_Y_field_255 post M a0 x1 x2 x3 x4 x5 x6 x7 x8 → W p l e rm_Y_field s m args below meth c H locs 0 0 Q (F0 m 255 ls []) := by
    intro M H locs ls a0 x1 x2 x3 x4 x5 x6 x7 x8 hl hM hS h
    unfold w_Y_field_255 at h
    rw [← hQ]
    exact z_vret hx hb hr hlk hK hM hS h d_Y_field_255
  have b_245 : ∀ (M : zM) (H : Heap) (locs : List Loc) (ls : Array Slot) (a0 : Nat) (x1 : Int32) (x2 : Int32) (x3 : Int32) (x4 : Int32) (x5 : Int32) (x6 : Int32) (x7 : Int32) (x8 : Int32), zL ls 9 [(0, .ref a0), (1, .int x1), (2, .int x2), (3, .int x3), (4, .int x4), (5, .int x5), (6, .int x6), (7, .int x7), (8, .int x8)] → zW ca D zcl A M H → va_S A s.heap H locs → w_Y_field_245 post M a0 x1 x2 x3 x4 x5 x6 x7 x8 → W p l e rm_Y_field s m args below meth c H locs 0 0 Q (F0 m 245 ls []) := by
    intro M H locs ls a0 x1 x2 x3 x4 x5 x6 x7 x8 hl hM hS h
    unfold w_Y_field_245 at h
    refine lv_aload_n hx hb d_Y_field_245 rfl (hl.at 0 rfl) ?_
    refine lv_dup hx hb d_Y_field_246 rfl ?_
    obtain ⟨t19, h⟩ := h
    refine z_getI hx hb hW in_9 hown hK hM t19 (by decide) rfl 30 (by decide) rfl (hW _ k_615) rfl d_Y_field_247 ?_
    refine lv_iconst (v := (1 : Int32)) hx hb d_Y_field_250 (by decide) ?_
    refine lv_iadd hx hb d_Y_field_251 ?_
    refine z_putI hx hb hW in_9 ty_9 tyok_9 nm_9 hown hK hM hS t19 (by decide) rfl 30 (by decide) rfl (hW _ k_615) rfl (Or.inl rfl) rfl rfl d_Y_field_252 (fun H locs hM hS => ?_)
    obtain ⟨M20, e21⟩ : ∃ z, z = zwI M a0 30 ((zI M a0 30) + (1 : Int32)) := ⟨_, rfl⟩
    replace h := h M20 e21
    rw [← e21] at hM
    exact b_255 M20 H locs ls a0 x1 x2 x3 x4 x5 x6 x7 x8 (hl.sub [0, 1, 2, 3, 4, 5, 6, 7, 8] rfl) hM hS h
  have b_173 : ∀ (M : zM) (H : Heap) (locs : List Loc) (ls : Array Slot) (a0 : Nat) (x1 : Int32) (x2 : Int32) (x3 : Int32) (x4 : Int32) (x5 : Int32) (x6 : Int32) (x7 : Int32) (x8 : Int32), zL ls 9 [(0, .ref a0), (1, .int x1), (2, .int x2), (3, .int x3), (4, .int x4), (5, .int x5), (6, .int x6), (7, .int x7), (8, .int x8)] → zW ca D zcl A M H → va_S A s.heap H locs → w_Y_field_173 post M a0 x1 x2 x3 x4 x5 x6 x7 x8 → W p l e rm_Y_field s m args below meth c H locs 0 0 Q (F0 m 173 ls []) := by
    intro M H locs ls a0 x1 x2 x3 x4 x5 x6 x7 x8 hl hM hS h
    unfold w_Y_field_173 at h
    refine lv_iload hx hb d_Y_field_173 (hl.at 6 rfl) ?_
    refine lv_if_ge (tgt := 245) hx hb d_Y_field_175 rfl (fun c18 => ?_) (fun c18 => ?_)
    · replace h := h.1 c18
      exact b_245 M H locs ls a0 x1 x2 x3 x4 x5 x6 x7 x8 (hl.sub [0, 1, 2, 3, 4, 5, 6, 7, 8] rfl) hM hS h
    · replace h := h.2 c18
      refine lv_iload hx hb d_Y_field_178 (hl.at 5 rfl) ?_
      refine lv_if_eq (tgt := 245) hx hb d_Y_field_180 rfl (fun c22 => ?_) (fun c22 => ?_)
      · replace h := h.1 c22
        exact b_245 M H locs ls a0 x1 x2 x3 x4 x5 x6 x7 x8 (hl.sub [0, 1, 2, 3, 4, 5, 6, 7, 8] rfl) hM hS h
      · replace h := h.2 c22
        refine lv_iload hx hb d_Y_field_183 (hl.at 8 rfl) ?_
        refine lv_if_eq (tgt := 245) hx hb d_Y_field_185 rfl (fun c23 => ?_) (fun c23 => ?_)
        · replace h := h.1 c23
          exact b_245 M H locs ls a0 x1 x2 x3 x4 x5 x6 x7 x8 (hl.sub [0, 1, 2, 3, 4, 5, 6, 7, 8] rfl) hM hS h
        · replace h := h.2 c23
          refine lv_aload_n hx hb d_Y_field_188 rfl (hl.at 0 rfl) ?_
          obtain ⟨t24, h⟩ := h
          refine z_getR hx hb hW in_9 hown hK hM t24 (by decide) rfl 26 (by decide) rfl (hW _ k_611) rfl d_Y_field_189 ?_
          refine lv_aload_n hx hb d_Y_field_192 rfl (hl.at 0 rfl) ?_
          refine z_getI hx hb hW in_9 hown hK hM t24 (by decide) rfl 28 (by decide) rfl (hW _ k_613) rfl d_Y_field_193 ?_
          refine lv_iload_n hx hb d_Y_field_196 rfl (hl.at 2 rfl) ?_
          obtain ⟨b25, hb26, h⟩ := h
          rw [hb26]
          obtain ⟨n28, t27, h⟩ := h
          obtain ⟨i29, h⟩ := h
          refine z_iast hx hb hK hM hS t27 0 rfl i29 d_Y_field_197 (fun H locs hM hS => ?_)
          obtain ⟨M30, e31⟩ : ∃ z, z = zwI M b25 (zI M a0 28).toNatClampNeg x2 := ⟨_, rfl⟩
          replace h := h M30 e31
          rw [← e31] at hM
          refine lv_aload_n hx hb d_Y_field_198 rfl (hl.at 0 rfl) ?_
          have t32 : zT M30 a0 = some (9, 40) := by rw [e31]; exact t24
          refine z_getR hx hb hW in_9 hown hK hM t32 (by decide) rfl 27 (by decide) rfl (hW _ k_612) rfl d_Y_field_199 ?_
          refine lv_aload_n hx hb d_Y_field_202 rfl (hl.at 0 rfl) ?_
          refine z_getI hx hb hW in_9 hown hK hM t32 (by decide) rfl 28 (by decide) rfl (hW _ k_613) rfl d_Y_field_203 ?_
          refine lv_iload_n hx hb d_Y_field_206 rfl (hl.at 3 rfl) ?_
          obtain ⟨b33, hb34, h⟩ := h
          rw [hb34]
          obtain ⟨n36, t35, h⟩ := h
          obtain ⟨i37, h⟩ := h
          refine z_iast hx hb hK hM hS t35 0 rfl i37 d_Y_field_207 (fun H locs hM hS => ?_)
          obtain ⟨M38, e39⟩ : ∃ z, z = zwI M30 b33 (zI M30 a0 28).toNatClampNeg x3 := ⟨_, rfl⟩
          replace h := h M38 e39
          rw [← e39] at hM
          refine lv_aload_n hx hb d_Y_field_208 rfl (hl.at 0 rfl) ?_
          have t40 : zT M38 a0 = some (9, 40) := by rw [e39]; exact t32
          refine z_getR hx hb hW in_9 hown hK hM t40 (by decide) rfl 20 (by decide) rfl (hW _ k_605) rfl d_Y_field_209 ?_
          refine lv_iconst (v := (3 : Int32)) hx hb d_Y_field_212 (by decide) ?_
          refine lv_iload_n hx hb d_Y_field_213 rfl (hl.at 1 rfl) ?_
          refine lv_imul hx hb d_Y_field_214 ?_
          refine lv_iload_n hx hb d_Y_field_215 rfl (hl.at 2 rfl) ?_
          refine lv_iadd hx hb d_Y_field_216 ?_
          refine lv_aload_n hx hb d_Y_field_217 rfl (hl.at 0 rfl) ?_
          refine z_getI hx hb hW in_9 hown hK hM t40 (by decide) rfl 28 (by decide) rfl (hW _ k_613) rfl d_Y_field_218 ?_
          obtain ⟨b41, hb42, h⟩ := h
          rw [hb42]
          obtain ⟨n44, t43, h⟩ := h
          obtain ⟨i45, h⟩ := h
          refine z_iast hx hb hK hM hS t43 0 rfl i45 d_Y_field_221 (fun H locs hM hS => ?_)
          obtain ⟨M46, e47⟩ : ∃ z, z = zwI M38 b41 (((3 : Int32) * x1) + x2).toNatClampNeg (zI M38 a0 28) := ⟨_, rfl⟩
          replace h := h M46 e47
          rw [← e47] at hM
          refine lv_aload_n hx hb d_Y_field_222 rfl (hl.at 0 rfl) ?_
          refine lv_dup hx hb d_Y_field_223 rfl ?_
          have t48 : zT M46 a0 = some (9, 40) := by rw [e47]; exact t40
          refine z_getI hx hb hW in_9 hown hK hM t48 (by decide) rfl 28 (by decide) rfl (hW _ k_613) rfl d_Y_field_224 ?_
          refine lv_iconst (v := (1 : Int32)) hx hb d_Y_field_227 (by decide) ?_
          refine lv_iadd hx hb d_Y_field_228 ?_
          refine z_putI hx hb hW in_9 ty_9 tyok_9 nm_9 hown hK hM hS t48 (by decide) rfl 28 (by decide) rfl (hW _ k_613) rfl (Or.inl rfl) rfl rfl d_Y_field_229 (fun H locs hM hS => ?_)
          obtain ⟨M49, e50⟩ : ∃ z, z = zwI M46 a0 28 ((zI M46 a0 28) + (1 : Int32)) := ⟨_, rfl⟩
          replace h := h M49 e50
          rw [← e50] at hM
          refine lv_aload_n hx hb d_Y_field_232 rfl (hl.at 0 rfl) ?_
          refine lv_dup hx hb d_Y_field_233 rfl ?_
          have t51 : zT M49 a0 = some (9, 40) := by rw [e50]; exact t48
          refine z_getI hx hb hW in_9 hown hK hM t51 (by decide) rfl 31 (by decide) rfl (hW _ k_616) rfl d_Y_field_234 ?_
          refine lv_iconst (v := (1 : Int32)) hx hb d_Y_field_237 (by decide) ?_
          refine lv_iadd hx hb d_Y_field_238 ?_
          refine z_putI hx hb hW in_9 ty_9 tyok_9 nm_9 hown hK hM hS t51 (by decide) rfl 31 (by decide) rfl (hW _ k_616) rfl (Or.inl rfl) rfl rfl d_Y_field_239 (fun H locs hM hS => ?_)
          obtain ⟨M52, e53⟩ : ∃ z, z = zwI M49 a0 31 ((zI M49 a0 31) + (1 : Int32)) := ⟨_, rfl⟩
          replace h := h M52 e53
          rw [← e53] at hM
          refine lv_goto (tgt := 255) hx hb d_Y_field_242 rfl ?_
          exact b_255 M52 H locs ls a0 x1 x2 x3 x4 x5 x6 x7 x8 (hl.sub [0, 1, 2, 3, 4, 5, 6, 7, 8] rfl) hM hS h
  have b_148 : ∀ (M : zM) (H : Heap) (locs : List Loc) (ls : Array Slot) (a0 : Nat) (x1 : Int32) (x2 : Int32) (x3 : Int32) (x4 : Int32) (x5 : Int32) (x6 : Int32) (x7 : Int32) (x8 : Int32), zL ls 9 [(0, .ref a0), (1, .int x1), (2, .int x2), (3, .int x3), (4, .int x4), (5, .int x5), (6, .int x6), (7, .int x7), (8, .int x8)] → zW ca D zcl A M H → va_S A s.heap H locs → w_Y_field_148 post M a0 x1 x2 x3 x4 x5 x6 x7 x8 → W p l e rm_Y_field s m args below meth c H locs 0 0 Q (F0 m 148 ls []) := by
    intro M H locs ls a0 x1 x2 x3 x4 x5 x6 x7 x8 hl hM hS h
    unfold w_Y_field_148 at h
    refine lv_aload_n hx hb d_Y_field_148 rfl (hl.at 0 rfl) ?_
    obtain ⟨t55, h⟩ := h
    refine z_getR hx hb hW in_9 hown hK hM t55 (by decide) rfl 20 (by decide) rfl (hW _ k_605) rfl d_Y_field_149 ?_
    refine lv_iconst (v := (3 : Int32)) hx hb d_Y_field_152 (by decide) ?_
    refine lv_iload_n hx hb d_Y_field_153 rfl (hl.at 1 rfl) ?_
    refine lv_imul hx hb d_Y_field_154 ?_
    refine lv_iload_n hx hb d_Y_field_155 rfl (hl.at 2 rfl) ?_
    refine lv_iadd hx hb d_Y_field_156 ?_
    refine lv_iload hx hb d_Y_field_157 (hl.at 6 rfl) ?_
    obtain ⟨b56, hb57, h⟩ := h
    rw [hb57]
    obtain ⟨n59, t58, h⟩ := h
    obtain ⟨i60, h⟩ := h
    refine z_iast hx hb hK hM hS t58 0 rfl i60 d_Y_field_159 (fun H locs hM hS => ?_)
    obtain ⟨M61, e62⟩ : ∃ z, z = zwI M b56 (((3 : Int32) * x1) + x2).toNatClampNeg x6 := ⟨_, rfl⟩
    replace h := h M61 e62
    rw [← e62] at hM
    refine lv_aload_n hx hb d_Y_field_160 rfl (hl.at 0 rfl) ?_
    refine lv_dup hx hb d_Y_field_161 rfl ?_
    have t63 : zT M61 a0 = some (9, 40) := by rw [e62]; exact t55
    refine z_getI hx hb hW in_9 hown hK hM t63 (by decide) rfl 31 (by decide) rfl (hW _ k_616) rfl d_Y_field_162 ?_
    refine lv_iconst (v := (1 : Int32)) hx hb d_Y_field_165 (by decide) ?_
    refine lv_iadd hx hb d_Y_field_166 ?_
    refine z_putI hx hb hW in_9 ty_9 tyok_9 nm_9 hown hK hM hS t63 (by decide) rfl 31 (by decide) rfl (hW _ k_616) rfl (Or.inl rfl) rfl rfl d_Y_field_167 (fun H locs hM hS => ?_)
    obtain ⟨M64, e65⟩ : ∃ z, z = zwI M61 a0 31 ((zI M61 a0 31) + (1 : Int32)) := ⟨_, rfl⟩
    replace h := h M64 e65
    rw [← e65] at hM
    refine lv_goto (tgt := 255) hx hb d_Y_field_170 rfl ?_
    exact b_255 M64 H locs ls a0 x1 x2 x3 x4 x5 x6 x7 x8 (hl.sub [0, 1, 2, 3, 4, 5, 6, 7, 8] rfl) hM hS h
  have b_129 : ∀ (M : zM) (H : Heap) (locs : List Loc) (ls : Array Slot) (a0 : Nat) (x1 : Int32) (x2 : Int32) (x3 : Int32) (x4 : Int32) (x5 : Int32) (x6 : Int32) (x7 : Int32) (u0 : Int32), zL ls 9 [(0, .ref a0), (1, .int x1), (2, .int x2), (3, .int x3), (4, .int x4), (5, .int x5), (6, .int x6), (7, .int x7)] → zW ca D zcl A M H → va_S A s.heap H locs → w_Y_field_129 post M a0 x1 x2 x3 x4 x5 x6 x7 u0 → W p l e rm_Y_field s m args below meth c H locs 0 0 Q (F0 m 129 ls [.int u0]) := by
    intro M H locs ls a0 x1 x2 x3 x4 x5 x6 x7 u0 hl hM hS h
    unfold w_Y_field_129 at h
    refine z_istore hx hb d_Y_field_129 hl (by decide) rfl (fun ls hl => ?_)
    have hl : zL ls 9 [(8, .int u0), (0, .ref a0), (1, .int x1), (2, .int x2), (3, .int x3), (4, .int x4), (5, .int x5), (6, .int x6), (7, .int x7)] := hl
    refine lv_iload hx hb d_Y_field_131 (hl.at 7 rfl) ?_
    refine lv_if_lt (tgt := 173) hx hb d_Y_field_133 rfl (fun c17 => ?_) (fun c17 => ?_)
    · replace h := h.1 c17
      exact b_173 M H locs ls a0 x1 x2 x3 x4 x5 x6 x7 u0 (hl.sub [1, 2, 3, 4, 5, 6, 7, 8, 0] rfl) hM hS h
    · replace h := h.2 c17
      refine lv_iload hx hb d_Y_field_136 (hl.at 7 rfl) ?_
      refine lv_iload hx hb d_Y_field_138 (hl.at 5 rfl) ?_
      refine lv_icmp_lt (tgt := 148) hx hb d_Y_field_140 rfl (fun c54 => ?_) (fun c54 => ?_)
      · replace h := h.1 c54
        exact b_148 M H locs ls a0 x1 x2 x3 x4 x5 x6 x7 u0 (hl.sub [1, 2, 3, 4, 5, 6, 7, 8, 0] rfl) hM hS h
      · replace h := h.2 c54
        refine lv_iload hx hb d_Y_field_143 (hl.at 6 rfl) ?_
        refine lv_if_eq (tgt := 173) hx hb d_Y_field_145 rfl (fun c66 => ?_) (fun c66 => ?_)
        · replace h := h.1 c66
          exact b_173 M H locs ls a0 x1 x2 x3 x4 x5 x6 x7 u0 (hl.sub [1, 2, 3, 4, 5, 6, 7, 8, 0] rfl) hM hS h
        · replace h := h.2 c66
          exact b_148 M H locs ls a0 x1 x2 x3 x4 x5 x6 x7 u0 (hl.sub [1, 2, 3, 4, 5, 6, 7, 8, 0] rfl) hM hS h
  have b_124 : ∀ (M : zM) (H : Heap) (locs : List Loc) (ls : Array Slot) (a0 : Nat) (x1 : Int32) (x2 : Int32) (x3 : Int32) (x4 : Int32) (x5 : Int32) (x6 : Int32) (x7 : Int32), zL ls 9 [(0, .ref a0), (1, .int x1), (2, .int x2), (3, .int x3), (4, .int x4), (5, .int x5), (6, .int x6), (7, .int x7)] → zW ca D zcl A M H → va_S A s.heap H locs → w_Y_field_124 post M a0 x1 x2 x3 x4 x5 x6 x7 → W p l e rm_Y_field s m args below meth c H locs 0 0 Q (F0 m 124 ls []) := by
    intro M H locs ls a0 x1 x2 x3 x4 x5 x6 x7 hl hM hS h
    unfold w_Y_field_124 at h
    refine lv_iconst (v := (1 : Int32)) hx hb d_Y_field_124 (by decide) ?_
    refine lv_goto (tgt := 129) hx hb d_Y_field_125 rfl ?_
    exact b_129 M H locs ls a0 x1 x2 x3 x4 x5 x6 x7 (1 : Int32) (hl.sub [0, 1, 2, 3, 4, 5, 6, 7] rfl) hM hS h
  have b_128 : ∀ (M : zM) (H : Heap) (locs : List Loc) (ls : Array Slot) (a0 : Nat) (x1 : Int32) (x2 : Int32) (x3 : Int32) (x4 : Int32) (x5 : Int32) (x6 : Int32) (x7 : Int32), zL ls 9 [(0, .ref a0), (1, .int x1), (2, .int x2), (3, .int x3), (4, .int x4), (5, .int x5), (6, .int x6), (7, .int x7)] → zW ca D zcl A M H → va_S A s.heap H locs → w_Y_field_128 post M a0 x1 x2 x3 x4 x5 x6 x7 → W p l e rm_Y_field s m args below meth c H locs 0 0 Q (F0 m 128 ls []) := by
    intro M H locs ls a0 x1 x2 x3 x4 x5 x6 x7 hl hM hS h
    unfold w_Y_field_128 at h
    refine lv_iconst (v := (0 : Int32)) hx hb d_Y_field_128 (by decide) ?_
    exact b_129 M H locs ls a0 x1 x2 x3 x4 x5 x6 x7 (0 : Int32) (hl.sub [0, 1, 2, 3, 4, 5, 6, 7] rfl) hM hS h
  have b_47 : ∀ (n : Nat) (M : zM) (H : Heap) (locs : List Loc) (ls : Array Slot) (a0 : Nat) (x1 : Int32) (x2 : Int32) (x3 : Int32) (x4 : Int32) (x5 : Int32) (x6 : Int32) (x7 : Int32), zL ls 9 [(0, .ref a0), (1, .int x1), (2, .int x2), (3, .int x3), (4, .int x4), (5, .int x5), (6, .int x6), (7, .int x7)] → zW ca D zcl A M H → va_S A s.heap H locs → w_Y_field_47 post n M a0 x1 x2 x3 x4 x5 x6 x7 → W p l e rm_Y_field s m args below meth c H locs 0 0 Q (F0 m 47 ls []) := by
    intro n
    induction n with
    | zero =>
      intro M H locs ls a0 x1 x2 x3 x4 x5 x6 x7 hl hM hS h
      exact False.elim h
    | succ n ih =>
      intro M H locs ls a0 x1 x2 x3 x4 x5 x6 x7 hl hM hS h
      rw [w_Y_field_47] at h
      refine lv_iload hx hb d_Y_field_47 (hl.at 7 rfl) ?_
      refine lv_aload_n hx hb d_Y_field_49 rfl (hl.at 0 rfl) ?_
      obtain ⟨t11, h⟩ := h
      refine z_getI hx hb hW in_9 hown hK hM t11 (by decide) rfl 28 (by decide) rfl (hW _ k_613) rfl d_Y_field_50 ?_
      refine lv_icmp_ge (tgt := 93) hx hb d_Y_field_53 rfl (fun c12 => ?_) (fun c12 => ?_)
      · replace h := h.1 c12
        refine lv_aload_n hx hb d_Y_field_93 rfl (hl.at 0 rfl) ?_
        refine z_cti (mc := 0) (ms := 0) (va_runV (As := []) (rest := []) ⟨hx, hb, hml, hown, hW⟩ (c_Y_oldest l ca D M H.size a0 _) (cw_Y_oldest hW k_750 ⟨by decide, by decide⟩) (zPre_V hK hN hM h t11 (by decide) rfl) rfl rfl hl.1.1 rfl (lv_room (Nat.le_of_ble_eq_true rfl)) d_Y_field_94 ⟨by decide, by decide⟩) hM hS hA (fun r13 M14 H locs h hM hS => ?_)
        refine z_istore hx hb d_Y_field_97 hl (by decide) rfl (fun ls hl => ?_)
        have hl : zL ls 9 [(7, .int r13), (0, .ref a0), (1, .int x1), (2, .int x2), (3, .int x3), (4, .int x4), (5, .int x5), (6, .int x6)] := hl
        refine lv_aload_n hx hb d_Y_field_99 rfl (hl.at 1 rfl) ?_
        obtain ⟨t15, h⟩ := h
        refine z_getI hx hb hW in_9 hown hK hM t15 (by decide) rfl 28 (by decide) rfl (hW _ k_613) rfl d_Y_field_100 ?_
        refine lv_iconst (v := (5 : Int32)) hx hb d_Y_field_103 (by decide) ?_
        refine lv_icmp_lt (tgt := 124) hx hb d_Y_field_104 rfl (fun c16 => ?_) (fun c16 => ?_)
        · replace h := h.1 c16
          refine W.widen (k := 0) (n := 0) (by decide) (by decide) ?_
          exact b_124 M14 H locs ls a0 x1 x2 x3 x4 x5 x6 r13 (hl.sub [1, 2, 3, 4, 5, 6, 7, 0] rfl) hM hS h
        · replace h := h.2 c16
          refine lv_iload hx hb d_Y_field_107 (hl.at 0 rfl) ?_
          refine lv_iload hx hb d_Y_field_109 (hl.at 5 rfl) ?_
          refine lv_icmp_ge (tgt := 128) hx hb d_Y_field_111 rfl (fun c67 => ?_) (fun c67 => ?_)
          · replace h := h.1 c67
            refine W.widen (k := 0) (n := 0) (by decide) (by decide) ?_
            exact b_128 M14 H locs ls a0 x1 x2 x3 x4 x5 x6 r13 (hl.sub [1, 2, 3, 4, 5, 6, 7, 0] rfl) hM hS h
          · replace h := h.2 c67
            refine lv_aload_n hx hb d_Y_field_114 rfl (hl.at 1 rfl) ?_
            refine lv_iload hx hb d_Y_field_115 (hl.at 0 rfl) ?_
            refine lv_iload_n hx hb d_Y_field_117 rfl (hl.at 2 rfl) ?_
            refine z_cti (mc := 0) (ms := 0) (va_runV (As := [.int r13, .int x1]) (rest := []) ⟨hx, hb, hml, hown, hW⟩ (c_Y_uses l ca D M14 H.size a0 r13 x1 _) (cw_Y_uses hW k_754 ⟨by decide, by decide⟩) (zPre_V hK hN hM h t15 (by decide) rfl) rfl rfl hl.1.1 rfl (lv_room (Nat.le_of_ble_eq_true rfl)) d_Y_field_118 ⟨by decide, by decide⟩) hM hS hA (fun r68 M69 H locs h hM hS => ?_)
            refine lv_if_ne (tgt := 128) hx hb d_Y_field_121 rfl (fun c70 => ?_) (fun c70 => ?_)
            · replace h := h.2 c70
              refine W.widen (k := 0) (n := 0) (by decide) (by decide) ?_
              exact b_128 M69 H locs ls a0 x1 x2 x3 x4 x5 x6 r13 (hl.sub [1, 2, 3, 4, 5, 6, 7, 0] rfl) hM hS h
            · replace h := h.1 c70
              refine W.widen (k := 0) (n := 0) (by decide) (by decide) ?_
              exact b_124 M69 H locs ls a0 x1 x2 x3 x4 x5 x6 r13 (hl.sub [1, 2, 3, 4, 5, 6, 7, 0] rfl) hM hS h
      · replace h := h.2 c12
        refine lv_aload_n hx hb d_Y_field_56 rfl (hl.at 0 rfl) ?_
        refine z_getR hx hb hW in_9 hown hK hM t11 (by decide) rfl 26 (by decide) rfl (hW _ k_611) rfl d_Y_field_57 ?_
        refine lv_iload hx hb d_Y_field_60 (hl.at 7 rfl) ?_
        obtain ⟨b71, hb72, h⟩ := h
        rw [hb72]
        obtain ⟨n74, t73, h⟩ := h
        obtain ⟨i75, h⟩ := h
        refine z_iald hx hb hK hM t73 0 rfl i75 d_Y_field_62 ?_
        refine lv_iload_n hx hb d_Y_field_63 rfl (hl.at 2 rfl) ?_
        refine lv_icmp_ne (tgt := 83) hx hb d_Y_field_64 rfl (fun c76 => ?_) (fun c76 => ?_)
        · replace h := h.2 c76
          refine lv_iload hx hb d_Y_field_83 (hl.at 6 rfl) ?_
          refine z_istore hx hb d_Y_field_85 hl (by decide) rfl (fun ls hl => ?_)
          have hl : zL ls 9 [(6, .int x6), (0, .ref a0), (1, .int x1), (2, .int x2), (3, .int x3), (4, .int x4), (5, .int x5), (7, .int x7)] := hl
          refine z_iinc (k := 7) (v := x7 + (1 : Int32)) hx hb d_Y_field_87 hl rfl rfl (by decide) rfl (fun ls hl => ?_)
          have hl : zL ls 9 [(7, .int (x7 + (1 : Int32))), (6, .int x6), (0, .ref a0), (1, .int x1), (2, .int x2), (3, .int x3), (4, .int x4), (5, .int x5)] := hl
          refine lv_goto (tgt := 47) hx hb d_Y_field_90 rfl ?_
          exact ih M H locs ls a0 x1 x2 x3 x4 x5 x6 (x7 + (1 : Int32)) (hl.sub [2, 3, 4, 5, 6, 7, 1, 0] rfl) hM hS h
        · replace h := h.1 c76
          refine lv_aload_n hx hb d_Y_field_67 rfl (hl.at 0 rfl) ?_
          refine z_getR hx hb hW in_9 hown hK hM t11 (by decide) rfl 27 (by decide) rfl (hW _ k_612) rfl d_Y_field_68 ?_
          refine lv_iload hx hb d_Y_field_71 (hl.at 7 rfl) ?_
          obtain ⟨b77, hb78, h⟩ := h
          rw [hb78]
          obtain ⟨n80, t79, h⟩ := h
          obtain ⟨i81, h⟩ := h
          refine z_iald hx hb hK hM t79 0 rfl i81 d_Y_field_73 ?_
          refine lv_iload_n hx hb d_Y_field_74 rfl (hl.at 3 rfl) ?_
          refine lv_icmp_ne (tgt := 83) hx hb d_Y_field_75 rfl (fun c82 => ?_) (fun c82 => ?_)
          · replace h := h.2 c82
            refine lv_iload hx hb d_Y_field_83 (hl.at 6 rfl) ?_
            refine z_istore hx hb d_Y_field_85 hl (by decide) rfl (fun ls hl => ?_)
            have hl : zL ls 9 [(6, .int x6), (0, .ref a0), (1, .int x1), (2, .int x2), (3, .int x3), (4, .int x4), (5, .int x5), (7, .int x7)] := hl
            refine z_iinc (k := 7) (v := x7 + (1 : Int32)) hx hb d_Y_field_87 hl rfl rfl (by decide) rfl (fun ls hl => ?_)
            have hl : zL ls 9 [(7, .int (x7 + (1 : Int32))), (6, .int x6), (0, .ref a0), (1, .int x1), (2, .int x2), (3, .int x3), (4, .int x4), (5, .int x5)] := hl
            refine lv_goto (tgt := 47) hx hb d_Y_field_90 rfl ?_
            exact ih M H locs ls a0 x1 x2 x3 x4 x5 x6 (x7 + (1 : Int32)) (hl.sub [2, 3, 4, 5, 6, 7, 1, 0] rfl) hM hS h
          · replace h := h.1 c82
            refine lv_iload hx hb d_Y_field_78 (hl.at 7 rfl) ?_
            refine lv_goto (tgt := 85) hx hb d_Y_field_80 rfl ?_
            refine z_istore hx hb d_Y_field_85 hl (by decide) rfl (fun ls hl => ?_)
            have hl : zL ls 9 [(6, .int x7), (0, .ref a0), (1, .int x1), (2, .int x2), (3, .int x3), (4, .int x4), (5, .int x5), (7, .int x7)] := hl
            refine z_iinc (k := 7) (v := x7 + (1 : Int32)) hx hb d_Y_field_87 hl rfl rfl (by decide) rfl (fun ls hl => ?_)
            have hl : zL ls 9 [(7, .int (x7 + (1 : Int32))), (6, .int x7), (0, .ref a0), (1, .int x1), (2, .int x2), (3, .int x3), (4, .int x4), (5, .int x5)] := hl
            refine lv_goto (tgt := 47) hx hb d_Y_field_90 rfl ?_
            exact ih M H locs ls a0 x1 x2 x3 x4 x5 x7 (x7 + (1 : Int32)) (hl.sub [2, 3, 4, 5, 6, 7, 1, 0] rfl) hM hS h
  have b_36 : ∀ (M : zM) (H : Heap) (locs : List Loc) (ls : Array Slot) (a0 : Nat) (x1 : Int32) (x2 : Int32) (x3 : Int32) (x4 : Int32) (u0 : Int32), zL ls 9 [(0, .ref a0), (1, .int x1), (2, .int x2), (3, .int x3), (4, .int x4)] → zW ca D zcl A M H → va_S A s.heap H locs → w_Y_field_36 post M a0 x1 x2 x3 x4 u0 → W p l e rm_Y_field s m args below meth c H locs 0 0 Q (F0 m 36 ls [.int u0]) := by
    intro M H locs ls a0 x1 x2 x3 x4 u0 hl hM hS h
    unfold w_Y_field_36 at h
    refine z_istore hx hb d_Y_field_36 hl (by decide) rfl (fun ls hl => ?_)
    have hl : zL ls 9 [(5, .int u0), (0, .ref a0), (1, .int x1), (2, .int x2), (3, .int x3), (4, .int x4)] := hl
    refine lv_iconst (v := (-1 : Int32)) hx hb d_Y_field_38 (by decide) ?_
    refine z_istore hx hb d_Y_field_39 hl (by decide) rfl (fun ls hl => ?_)
    have hl : zL ls 9 [(6, .int (-1 : Int32)), (5, .int u0), (0, .ref a0), (1, .int x1), (2, .int x2), (3, .int x3), (4, .int x4)] := hl
    refine lv_aload_n hx hb d_Y_field_41 rfl (hl.at 2 rfl) ?_
    obtain ⟨t8, h⟩ := h
    refine z_cti (mc := 0) (ms := 0) (va_runV (As := []) (rest := []) ⟨hx, hb, hml, hown, hW⟩ (c_Y_oldest l ca D M H.size a0 _) (cw_Y_oldest hW k_750 ⟨by decide, by decide⟩) (zPre_V hK hN hM h t8 (by decide) rfl) rfl rfl hl.1.1 rfl (lv_room (Nat.le_of_ble_eq_true rfl)) d_Y_field_42 ⟨by decide, by decide⟩) hM hS hA (fun r9 M10 H locs h hM hS => ?_)
    refine z_istore hx hb d_Y_field_45 hl (by decide) rfl (fun ls hl => ?_)
    have hl : zL ls 9 [(7, .int r9), (6, .int (-1 : Int32)), (5, .int u0), (0, .ref a0), (1, .int x1), (2, .int x2), (3, .int x3), (4, .int x4)] := hl
    refine W.widen (k := 0) (n := 0) (by decide) (by decide) ?_
    obtain ⟨n83, h⟩ := h
    exact b_47 n83 M10 H locs ls a0 x1 x2 x3 x4 u0 (-1 : Int32) r9 (hl.sub [3, 4, 5, 6, 7, 2, 1, 0] rfl) hM hS h
  have b_31 : ∀ (M : zM) (H : Heap) (locs : List Loc) (ls : Array Slot) (a0 : Nat) (x1 : Int32) (x2 : Int32) (x3 : Int32) (x4 : Int32), zL ls 9 [(0, .ref a0), (1, .int x1), (2, .int x2), (3, .int x3), (4, .int x4)] → zW ca D zcl A M H → va_S A s.heap H locs → w_Y_field_31 post M a0 x1 x2 x3 x4 → W p l e rm_Y_field s m args below meth c H locs 0 0 Q (F0 m 31 ls []) := by
    intro M H locs ls a0 x1 x2 x3 x4 hl hM hS h
    unfold w_Y_field_31 at h
    refine lv_iconst (v := (1 : Int32)) hx hb d_Y_field_31 (by decide) ?_
    refine lv_goto (tgt := 36) hx hb d_Y_field_32 rfl ?_
    exact b_36 M H locs ls a0 x1 x2 x3 x4 (1 : Int32) (hl.sub [0, 1, 2, 3, 4] rfl) hM hS h
  have b_start : ∀ (M : zM) (H : Heap) (locs : List Loc) (ls : Array Slot) (a0 : Nat) (x1 : Int32) (x2 : Int32) (x3 : Int32), zL ls 9 [(0, .ref a0), (1, .int x1), (2, .int x2), (3, .int x3)] → zW ca D zcl A M H → va_S A s.heap H locs → w_Y_field M a0 x1 x2 x3 post → W p l e rm_Y_field s m args below meth c H locs 0 0 Q (F0 m 0 ls []) := by
    intro M H locs ls a0 x1 x2 x3 hl hM hS h
    unfold w_Y_field at h
    refine lv_aload_n hx hb d_Y_field_0 rfl (hl.at 0 rfl) ?_
    refine lv_aload_n hx hb d_Y_field_1 rfl (hl.at 0 rfl) ?_
    obtain ⟨t1, h⟩ := h
    refine z_getI hx hb hW in_9 hown hK hM t1 (by decide) rfl 35 (by decide) rfl (hW _ k_620) rfl d_Y_field_2 ?_
    refine z_cti (mc := 0) (ms := 0) (va_runV (As := [.int (zI M a0 35)]) (rest := []) ⟨hx, hb, hml, hown, hW⟩ (c_Y_after l ca D M H.size a0 (zI M a0 35) _) (cw_Y_after hW k_734 ⟨by decide, by decide⟩) (zPre_V hK hN hM h t1 (by decide) rfl) rfl rfl hl.1.1 rfl (lv_room (Nat.le_of_ble_eq_true rfl)) d_Y_field_5 ⟨by decide, by decide⟩) hM hS hA (fun r2 M3 H locs h hM hS => ?_)
    refine z_istore hx hb d_Y_field_8 hl (by decide) rfl (fun ls hl => ?_)
    have hl : zL ls 9 [(4, .int r2), (0, .ref a0), (1, .int x1), (2, .int x2), (3, .int x3)] := hl
    refine lv_aload_n hx hb d_Y_field_10 rfl (hl.at 1 rfl) ?_
    refine lv_iload_n hx hb d_Y_field_11 rfl (hl.at 2 rfl) ?_
    obtain ⟨t4, h⟩ := h
    refine z_cti (mc := 0) (ms := 0) (va_runV (As := [.int x1]) (rest := []) ⟨hx, hb, hml, hown, hW⟩ (c_Y_need l ca D M3 H.size a0 x1 _) (cw_Y_need hW k_738 ⟨by decide, by decide⟩) (zPre_V hK hN hM h t4 (by decide) rfl) rfl rfl hl.1.1 rfl (lv_room (Nat.le_of_ble_eq_true rfl)) d_Y_field_12 ⟨by decide, by decide⟩) hM hS hA (fun r5 M6 H locs h hM hS => ?_)
    refine lv_iload hx hb d_Y_field_15 (hl.at 0 rfl) ?_
    refine lv_icmp_gt (tgt := 31) hx hb d_Y_field_17 rfl (fun c7 => ?_) (fun c7 => ?_)
    · replace h := h.1 c7
      refine W.widen (k := 0) (n := 0) (by decide) (by decide) ?_
      exact b_31 M6 H locs ls a0 x1 x2 x3 r2 (hl.sub [1, 2, 3, 4, 0] rfl) hM hS h
    · replace h := h.2 c7
      refine lv_aload_n hx hb d_Y_field_20 rfl (hl.at 1 rfl) ?_
      refine lv_iload hx hb d_Y_field_21 (hl.at 0 rfl) ?_
      refine lv_iload_n hx hb d_Y_field_23 rfl (hl.at 2 rfl) ?_
      obtain ⟨t84, h⟩ := h
      refine z_cti (mc := 0) (ms := 0) (va_runV (As := [.int r2, .int x1]) (rest := []) ⟨hx, hb, hml, hown, hW⟩ (c_Y_risky l ca D M6 H.size a0 r2 x1 _) (cw_Y_risky hW k_742 ⟨by decide, by decide⟩) (zPre_V hK hN hM h t84 (by decide) rfl) rfl rfl hl.1.1 rfl (lv_room (Nat.le_of_ble_eq_true rfl)) d_Y_field_24 ⟨by decide, by decide⟩) hM hS hA (fun r85 M86 H locs h hM hS => ?_)
      refine lv_iconst (v := (2 : Int32)) hx hb d_Y_field_27 (by decide) ?_
      refine lv_icmp_ge (tgt := 35) hx hb d_Y_field_28 rfl (fun c87 => ?_) (fun c87 => ?_)
      · replace h := h.1 c87
        refine lv_iconst (v := (0 : Int32)) hx hb d_Y_field_35 (by decide) ?_
        refine W.widen (k := 0) (n := 0) (by decide) (by decide) ?_
        exact b_36 M86 H locs ls a0 x1 x2 x3 r2 (0 : Int32) (hl.sub [1, 2, 3, 4, 0] rfl) hM hS h
      · replace h := h.2 c87
        refine W.widen (k := 0) (n := 0) (by decide) (by decide) ?_
        exact b_31 M86 H locs ls a0 x1 x2 x3 r2 (hl.sub [1, 2, 3, 4, 0] rfl) hM hS h
  exact b_start M s.heap [] ls a0 x1 x2 x3 hl hM hS h
set_option maxHeartbeats 4000000 in
set_option maxRecDepth 100000 in
theorem c_Y_decide (l : Launch) (ca : Nat → ClassId) (D : va_G) (M : zM) (sz : Nat) (a0 : Nat) (x1 : Int32) (post : Int32 → zM → Prop) : Met l y_Y_decide (Cond.code y_Y_decide prog_11_method_14_code 3 (some .int) :: zws) rm_Y_decide (zPre ca D zcl (ztys ca) [.ref a0, .int x1] M sz (w_Y_decide M a0 x1 post)) (va_Qi post (zB ca D zcl (ztys ca) (zA M sz)) (zA M sz)) 0 0 (zA M sz) := by
  refine z_met (cc := prog_11_method_14_code) (maxL := 3) (ret := (some .int)) (plainFor_of_name (by decide)) rfl (by simp [Value.category]) (Nat.le_of_ble_eq_true rfl) ?_
  intro p e s m args below meth c ls A hx hb hr hlk hml hts hown hnm hK hN hl hA0 hM hS hA h
  rw [← hA0]
  have hW : ∀ w ∈ zws, w.before args s = true := fun w hw => hts w (List.mem_cons_of_mem _ hw)
  have hl : zL ls 3 [(0, .ref a0), (1, .int x1)] := hl
  generalize hQ : MQ below (va_Qi post (zB ca D zcl (ztys ca) A) A) args s 0 0 A = Q
  have b_93 : ∀ (M : zM) (H : Heap) (locs : List Loc) (ls : Array Slot) (a0 : Nat) (x1 : Int32) (x2 : Int32), zL ls 3 [(0, .ref a0), (1, .int x1), (2, .int x2)] → zW ca D zcl A M H → va_S A s.heap H locs → w_Y_decide_93 post M a0 x1 x2 → W p l e rm_Y_decide s m args below meth c H locs 0 0 Q (F0 m 93 ls []) := by
    intro M H locs ls a0 x1 x2 hl hM hS h
    unfold w_Y_decide_93 at h
    refine lv_aload_n hx hb d_Y_decide_93 rfl (hl.at 0 rfl) ?_
    refine lv_iload_n hx hb d_Y_decide_94 rfl (hl.at 2 rfl) ?_
    refine lv_aload_n hx hb d_Y_decide_95 rfl (hl.at 0 rfl) ?_
    obtain ⟨t19, h⟩ := h
    refine z_getR hx hb hW in_9 hown hK hM t19 (by decide) rfl 10 (by decide) rfl (hW _ k_595) rfl d_Y_decide_96 ?_
    refine lv_iload_n hx hb d_Y_decide_99 rfl (hl.at 1 rfl) ?_
    obtain ⟨b20, hb21, h⟩ := h
    rw [hb21]
    obtain ⟨n23, t22, h⟩ := h
    obtain ⟨i24, h⟩ := h
    refine z_iald hx hb hK hM t22 0 rfl i24 d_Y_decide_100 ?_
    refine lv_aload_n hx hb d_Y_decide_101 rfl (hl.at 0 rfl) ?_
    refine z_getR hx hb hW in_9 hown hK hM t19 (by decide) rfl 11 (by decide) rfl (hW _ k_596) rfl d_Y_decide_102 ?_
    refine lv_iload_n hx hb d_Y_decide_105 rfl (hl.at 1 rfl) ?_
    obtain ⟨b25, hb26, h⟩ := h
    rw [hb26]
    obtain ⟨n28, t27, h⟩ := h
    obtain ⟨i29, h⟩ := h
    refine z_iald hx hb hK hM t27 0 rfl i29 d_Y_decide_106 ?_
    refine z_cti (mc := 0) (ms := 0) (va_runV (As := [.int x2, .int (zI M b20 x1.toNatClampNeg), .int (zI M b25 x1.toNatClampNeg)]) (rest := []) ⟨hx, hb, hml, hown, hW⟩ (c_Y_write l ca D M H.size a0 x2 (zI M b20 x1.toNatClampNeg) (zI M b25 x1.toNatClampNeg) _) (cw_Y_write hW k_714 ⟨by decide, by decide⟩) (zPre_V hK hN hM h t19 (by decide) rfl) rfl rfl hl.1.1 rfl (lv_room (Nat.le_of_ble_eq_true rfl)) d_Y_decide_107 ⟨by decide, by decide⟩) hM hS hA (fun r30 M31 H locs h hM hS => ?_)
    refine lv_pop hx hb d_Y_decide_110 rfl ?_
    refine lv_sipush (v := (200 : Int32)) hx hb d_Y_decide_111 (by decide) ?_
    refine W.widen (k := 0) (n := 0) (by decide) (by decide) ?_
    rw [← hQ]
    exact z_iret hx hb hr hlk hK hM hS h d_Y_decide_114
  have b_start : ∀ (M : zM) (H : Heap) (locs : List Loc) (ls : Array Slot) (a0 : Nat) (x1 : Int32), zL ls 3 [(0, .ref a0), (1, .int x1)] → zW ca D zcl A M H → va_S A s.heap H locs → w_Y_decide M a0 x1 post → W p l e rm_Y_decide s m args below meth c H locs 0 0 Q (F0 m 0 ls []) := by
    intro M H locs ls a0 x1 hl hM hS h
    unfold w_Y_decide at h
    refine lv_aload_n hx hb d_Y_decide_0 rfl (hl.at 0 rfl) ?_
    obtain ⟨t1, h⟩ := h
    refine z_getR hx hb hW in_9 hown hK hM t1 (by decide) rfl 8 (by decide) rfl (hW _ k_593) rfl d_Y_decide_1 ?_
    refine lv_iload_n hx hb d_Y_decide_4 rfl (hl.at 1 rfl) ?_
    obtain ⟨b2, hb3, h⟩ := h
    rw [hb3]
    obtain ⟨n5, t4, h⟩ := h
    obtain ⟨i6, h⟩ := h
    refine z_iald hx hb hK hM t4 0 rfl i6 d_Y_decide_5 ?_
    refine z_istore_n hx hb d_Y_decide_6 rfl hl (by decide) rfl (fun ls hl => ?_)
    have hl : zL ls 3 [(2, .int (zI M b2 x1.toNatClampNeg)), (0, .ref a0), (1, .int x1)] := hl
    refine lv_aload_n hx hb d_Y_decide_7 rfl (hl.at 1 rfl) ?_
    refine z_getR hx hb hW in_9 hown hK hM t1 (by decide) rfl 7 (by decide) rfl (hW _ k_592) rfl d_Y_decide_8 ?_
    refine lv_iload_n hx hb d_Y_decide_11 rfl (hl.at 2 rfl) ?_
    obtain ⟨b7, hb8, h⟩ := h
    rw [hb8]
    obtain ⟨n10, t9, h⟩ := h
    obtain ⟨i11, h⟩ := h
    refine z_zald hx hb hK hM t9 1 rfl i11 d_Y_decide_12 ?_
    refine lv_if_ne (tgt := 56) hx hb d_Y_decide_13 rfl (fun c12 => ?_) (fun c12 => ?_)
    · replace h := h.2 c12
      refine lv_aload_n hx hb d_Y_decide_56 rfl (hl.at 1 rfl) ?_
      refine z_getR hx hb hW in_9 hown hK hM t1 (by decide) rfl 12 (by decide) rfl (hW _ k_597) rfl d_Y_decide_57 ?_
      refine lv_iload_n hx hb d_Y_decide_60 rfl (hl.at 2 rfl) ?_
      obtain ⟨b13, hb14, h⟩ := h
      rw [hb14]
      obtain ⟨n16, t15, h⟩ := h
      obtain ⟨i17, h⟩ := h
      refine z_iald hx hb hK hM t15 0 rfl i17 d_Y_decide_61 ?_
      refine lv_if_le (tgt := 93) hx hb d_Y_decide_62 rfl (fun c18 => ?_) (fun c18 => ?_)
      · replace h := h.1 c18
        exact b_93 M H locs ls a0 x1 (zI M b2 x1.toNatClampNeg) (hl.sub [1, 2, 0] rfl) hM hS h
      · replace h := h.2 c18
        refine lv_aload_n hx hb d_Y_decide_65 rfl (hl.at 1 rfl) ?_
        refine z_getR hx hb hW in_9 hown hK hM t1 (by decide) rfl 0 (by decide) rfl (hW _ k_585) rfl d_Y_decide_66 ?_
        refine lv_iload_n hx hb d_Y_decide_69 rfl (hl.at 0 rfl) ?_
        obtain ⟨b32, hb33, h⟩ := h
        rw [hb33]
        obtain ⟨n35, t34, h⟩ := h
        obtain ⟨i36, h⟩ := h
        refine z_zald hx hb hK hM t34 1 rfl i36 d_Y_decide_70 ?_
        refine lv_if_eq (tgt := 89) hx hb d_Y_decide_71 rfl (fun c37 => ?_) (fun c37 => ?_)
        · replace h := h.1 c37
          refine lv_sipush (v := (412 : Int32)) hx hb d_Y_decide_89 (by decide) ?_
          rw [← hQ]
          exact z_iret hx hb hr hlk hK hM hS h d_Y_decide_92
        · replace h := h.2 c37
          refine lv_aload_n hx hb d_Y_decide_74 rfl (hl.at 1 rfl) ?_
          refine z_getR hx hb hW in_9 hown hK hM t1 (by decide) rfl 3 (by decide) rfl (hW _ k_588) rfl d_Y_decide_75 ?_
          refine lv_iload_n hx hb d_Y_decide_78 rfl (hl.at 0 rfl) ?_
          obtain ⟨b38, hb39, h⟩ := h
          rw [hb39]
          obtain ⟨n41, t40, h⟩ := h
          obtain ⟨i42, h⟩ := h
          refine z_iald hx hb hK hM t40 0 rfl i42 d_Y_decide_79 ?_
          refine lv_aload_n hx hb d_Y_decide_80 rfl (hl.at 1 rfl) ?_
          refine z_getR hx hb hW in_9 hown hK hM t1 (by decide) rfl 12 (by decide) rfl (hW _ k_597) rfl d_Y_decide_81 ?_
          refine lv_iload_n hx hb d_Y_decide_84 rfl (hl.at 2 rfl) ?_
          obtain ⟨b43, hb44, h⟩ := h
          rw [hb44]
          obtain ⟨n46, t45, h⟩ := h
          obtain ⟨i47, h⟩ := h
          refine z_iald hx hb hK hM t45 0 rfl i47 d_Y_decide_85 ?_
          refine lv_icmp_eq (tgt := 93) hx hb d_Y_decide_86 rfl (fun c48 => ?_) (fun c48 => ?_)
          · replace h := h.1 c48
            exact b_93 M H locs ls a0 x1 (zI M b2 x1.toNatClampNeg) (hl.sub [1, 2, 0] rfl) hM hS h
          · replace h := h.2 c48
            refine lv_sipush (v := (412 : Int32)) hx hb d_Y_decide_89 (by decide) ?_
            rw [← hQ]
            exact z_iret hx hb hr hlk hK hM hS h d_Y_decide_92
    · replace h := h.1 c12
      refine lv_aload_n hx hb d_Y_decide_16 rfl (hl.at 1 rfl) ?_
      refine z_getR hx hb hW in_9 hown hK hM t1 (by decide) rfl 0 (by decide) rfl (hW _ k_585) rfl d_Y_decide_17 ?_
      refine lv_iload_n hx hb d_Y_decide_20 rfl (hl.at 0 rfl) ?_
      obtain ⟨b49, hb50, h⟩ := h
      rw [hb50]
      obtain ⟨n52, t51, h⟩ := h
      obtain ⟨i53, h⟩ := h
      refine z_zald hx hb hK hM t51 1 rfl i53 d_Y_decide_21 ?_
      refine lv_if_ne (tgt := 31) hx hb d_Y_decide_22 rfl (fun c54 => ?_) (fun c54 => ?_)
      · replace h := h.2 c54
        refine lv_aload_n hx hb d_Y_decide_31 rfl (hl.at 1 rfl) ?_
        refine z_getR hx hb hW in_9 hown hK hM t1 (by decide) rfl 12 (by decide) rfl (hW _ k_597) rfl d_Y_decide_32 ?_
        refine lv_iload_n hx hb d_Y_decide_35 rfl (hl.at 2 rfl) ?_
        obtain ⟨b55, hb56, h⟩ := h
        rw [hb56]
        obtain ⟨n58, t57, h⟩ := h
        obtain ⟨i59, h⟩ := h
        refine z_iald hx hb hK hM t57 0 rfl i59 d_Y_decide_36 ?_
        refine lv_aload_n hx hb d_Y_decide_37 rfl (hl.at 1 rfl) ?_
        refine z_getR hx hb hW in_9 hown hK hM t1 (by decide) rfl 3 (by decide) rfl (hW _ k_588) rfl d_Y_decide_38 ?_
        refine lv_iload_n hx hb d_Y_decide_41 rfl (hl.at 0 rfl) ?_
        obtain ⟨b60, hb61, h⟩ := h
        rw [hb61]
        obtain ⟨n63, t62, h⟩ := h
        obtain ⟨i64, h⟩ := h
        refine z_iald hx hb hK hM t62 0 rfl i64 d_Y_decide_42 ?_
        refine lv_icmp_ne (tgt := 52) hx hb d_Y_decide_43 rfl (fun c65 => ?_) (fun c65 => ?_)
        · replace h := h.2 c65
          refine lv_sipush (v := (200 : Int32)) hx hb d_Y_decide_52 (by decide) ?_
          rw [← hQ]
          exact z_iret hx hb hr hlk hK hM hS h d_Y_decide_55
        · replace h := h.1 c65
          refine lv_sipush (v := (304 : Int32)) hx hb d_Y_decide_46 (by decide) ?_
          refine lv_goto (tgt := 55) hx hb d_Y_decide_49 rfl ?_
          rw [← hQ]
          exact z_iret hx hb hr hlk hK hM hS h d_Y_decide_55
      · replace h := h.1 c54
        refine lv_sipush (v := (404 : Int32)) hx hb d_Y_decide_25 (by decide) ?_
        refine lv_goto (tgt := 55) hx hb d_Y_decide_28 rfl ?_
        rw [← hQ]
        exact z_iret hx hb hr hlk hK hM hS h d_Y_decide_55
  exact b_start M s.heap [] ls a0 x1 hl hM hS h
set_option maxHeartbeats 4000000 in
set_option maxRecDepth 100000 in
theorem c_Y_arrive (l : Launch) (ca : Nat → ClassId) (D : va_G) (M : zM) (sz : Nat) (a0 : Nat) (x1 : Int32) (post : Int32 → zM → Prop) : Met l y_Y_arrive (Cond.code y_Y_arrive prog_11_method_15_code 4 (some .int) :: zws) rm_Y_arrive (zPre ca D zcl (ztys ca) [.ref a0, .int x1] M sz (w_Y_arrive M a0 x1 post)) (va_Qi post (zB ca D zcl (ztys ca) (zA M sz)) (zA M sz)) 0 0 (zA M sz) := by
  refine z_met (cc := prog_11_method_15_code) (maxL := 4) (ret := (some .int)) (plainFor_of_name (by decide)) rfl (by simp [Value.category]) (Nat.le_of_ble_eq_true rfl) ?_
  intro p e s m args below meth c ls A hx hb hr hlk hml hts hown hnm hK hN hl hA0 hM hS hA h
  rw [← hA0]
  have hW : ∀ w ∈ zws, w.before args s = true := fun w hw => hts w (List.mem_cons_of_mem _ hw)
  have hl : zL ls 4 [(0, .ref a0), (1, .int x1)] := hl
  generalize hQ : MQ below (va_Qi post (zB ca D zcl (ztys ca) A) A) args s 0 0 A = Q
  have b_23 : ∀ (M : zM) (H : Heap) (locs : List Loc) (ls : Array Slot) (a0 : Nat) (x1 : Int32), zL ls 4 [(0, .ref a0), (1, .int x1)] → zW ca D zcl A M H → va_S A s.heap H locs → w_Y_arrive_23 post M a0 x1 → W p l e rm_Y_arrive s m args below meth c H locs 0 0 Q (F0 m 23 ls []) := by
    intro M H locs ls a0 x1 hl hM hS h
    unfold w_Y_arrive_23 at h
    refine lv_iconst (v := (-1 : Int32)) hx hb d_Y_arrive_23 (by decide) ?_
    rw [← hQ]
    exact z_iret hx hb hr hlk hK hM hS h d_Y_arrive_24
  have b_208 : ∀ (M : zM) (H : Heap) (locs : List Loc) (ls : Array Slot) (a0 : Nat) (x1 : Int32) (x2 : Int32) (x3 : Int32) (v0 : Nat) (u1 : Int32), zL ls 4 [(0, .ref a0), (1, .int x1), (2, .int x2), (3, .int x3)] → zW ca D zcl A M H → va_S A s.heap H locs → w_Y_arrive_208 post M a0 x1 x2 x3 v0 u1 → W p l e rm_Y_arrive s m args below meth c H locs 0 0 Q (F0 m 208 ls [.int u1, .ref v0]) := by
    intro M H locs ls a0 x1 x2 x3 v0 u1 hl hM hS h
    unfold w_Y_arrive_208 at h
    obtain ⟨t89, h⟩ := h
    refine z_putI hx hb hW in_9 ty_9 tyok_9 nm_9 hown hK hM hS t89 (by decide) rfl 39 (by decide) rfl (hW _ k_624) rfl (Or.inl rfl) rfl rfl d_Y_arrive_208 (fun H locs hM hS => ?_)
    obtain ⟨M90, e91⟩ : ∃ z, z = zwI M v0 39 u1 := ⟨_, rfl⟩
    replace h := h M90 e91
    rw [← e91] at hM
    refine lv_iload_n hx hb d_Y_arrive_211 rfl (hl.at 3 rfl) ?_
    rw [← hQ]
    exact z_iret hx hb hr hlk hK hM hS h d_Y_arrive_212
  have b_173 : ∀ (M : zM) (H : Heap) (locs : List Loc) (ls : Array Slot) (a0 : Nat) (x1 : Int32) (x2 : Int32) (x3 : Int32), zL ls 4 [(0, .ref a0), (1, .int x1), (2, .int x2), (3, .int x3)] → zW ca D zcl A M H → va_S A s.heap H locs → w_Y_arrive_173 post M a0 x1 x2 x3 → W p l e rm_Y_arrive s m args below meth c H locs 0 0 Q (F0 m 173 ls []) := by
    intro M H locs ls a0 x1 x2 x3 hl hM hS h
    unfold w_Y_arrive_173 at h
    refine lv_aload_n hx hb d_Y_arrive_173 rfl (hl.at 0 rfl) ?_
    obtain ⟨t71, h⟩ := h
    refine z_getR hx hb hW in_9 hown hK hM t71 (by decide) rfl 16 (by decide) rfl (hW _ k_601) rfl d_Y_arrive_174 ?_
    refine lv_iload_n hx hb d_Y_arrive_177 rfl (hl.at 1 rfl) ?_
    refine lv_iload_n hx hb d_Y_arrive_178 rfl (hl.at 3 rfl) ?_
    obtain ⟨b72, hb73, h⟩ := h
    rw [hb73]
    obtain ⟨n75, t74, h⟩ := h
    obtain ⟨i76, h⟩ := h
    refine z_iast hx hb hK hM hS t74 0 rfl i76 d_Y_arrive_179 (fun H locs hM hS => ?_)
    obtain ⟨M77, e78⟩ : ∃ z, z = zwI M b72 x1.toNatClampNeg x3 := ⟨_, rfl⟩
    replace h := h M77 e78
    rw [← e78] at hM
    refine lv_aload_n hx hb d_Y_arrive_180 rfl (hl.at 0 rfl) ?_
    have t79 : zT M77 a0 = some (9, 40) := by rw [e78]; exact t71
    refine z_getR hx hb hW in_9 hown hK hM t79 (by decide) rfl 15 (by decide) rfl (hW _ k_600) rfl d_Y_arrive_181 ?_
    refine lv_iload_n hx hb d_Y_arrive_184 rfl (hl.at 1 rfl) ?_
    refine lv_iconst (v := (2 : Int32)) hx hb d_Y_arrive_185 (by decide) ?_
    obtain ⟨b80, hb81, h⟩ := h
    rw [hb81]
    obtain ⟨n83, t82, h⟩ := h
    obtain ⟨i84, h⟩ := h
    refine z_iast hx hb hK hM hS t82 0 rfl i84 d_Y_arrive_186 (fun H locs hM hS => ?_)
    obtain ⟨M85, e86⟩ : ∃ z, z = zwI M77 b80 x1.toNatClampNeg (2 : Int32) := ⟨_, rfl⟩
    replace h := h M85 e86
    rw [← e86] at hM
    refine lv_aload_n hx hb d_Y_arrive_187 rfl (hl.at 0 rfl) ?_
    refine lv_iload_n hx hb d_Y_arrive_188 rfl (hl.at 1 rfl) ?_
    refine lv_iconst (v := (1 : Int32)) hx hb d_Y_arrive_189 (by decide) ?_
    refine lv_iadd hx hb d_Y_arrive_190 ?_
    refine lv_aload_n hx hb d_Y_arrive_191 rfl (hl.at 0 rfl) ?_
    have t87 : zT M85 a0 = some (9, 40) := by rw [e86]; exact t79
    refine z_getI hx hb hW in_9 hown hK hM t87 (by decide) rfl 39 (by decide) rfl (hW _ k_624) rfl d_Y_arrive_192 ?_
    refine lv_icmp_le (tgt := 204) hx hb d_Y_arrive_195 rfl (fun c88 => ?_) (fun c88 => ?_)
    · replace h := h.1 c88
      refine lv_aload_n hx hb d_Y_arrive_204 rfl (hl.at 0 rfl) ?_
      refine z_getI hx hb hW in_9 hown hK hM t87 (by decide) rfl 39 (by decide) rfl (hW _ k_624) rfl d_Y_arrive_205 ?_
      exact b_208 M85 H locs ls a0 x1 x2 x3 a0 (zI M85 a0 39) (hl.sub [0, 1, 2, 3] rfl) hM hS h
    · replace h := h.2 c88
      refine lv_iload_n hx hb d_Y_arrive_198 rfl (hl.at 1 rfl) ?_
      refine lv_iconst (v := (1 : Int32)) hx hb d_Y_arrive_199 (by decide) ?_
      refine lv_iadd hx hb d_Y_arrive_200 ?_
      refine lv_goto (tgt := 208) hx hb d_Y_arrive_201 rfl ?_
      exact b_208 M85 H locs ls a0 x1 x2 x3 a0 (x1 + (1 : Int32)) (hl.sub [0, 1, 2, 3] rfl) hM hS h
  have b_145 : ∀ (M : zM) (H : Heap) (locs : List Loc) (ls : Array Slot) (a0 : Nat) (x1 : Int32) (x2 : Int32) (x3 : Int32), zL ls 4 [(0, .ref a0), (1, .int x1), (2, .int x2), (3, .int x3)] → zW ca D zcl A M H → va_S A s.heap H locs → w_Y_arrive_145 post M a0 x1 x2 x3 → W p l e rm_Y_arrive s m args below meth c H locs 0 0 Q (F0 m 145 ls []) := by
    intro M H locs ls a0 x1 x2 x3 hl hM hS h
    unfold w_Y_arrive_145 at h
    refine lv_iload_n hx hb d_Y_arrive_145 rfl (hl.at 3 rfl) ?_
    refine lv_sipush (v := (200 : Int32)) hx hb d_Y_arrive_146 (by decide) ?_
    refine lv_icmp_ne (tgt := 173) hx hb d_Y_arrive_149 rfl (fun c70 => ?_) (fun c70 => ?_)
    · replace h := h.2 c70
      exact b_173 M H locs ls a0 x1 x2 x3 (hl.sub [0, 1, 2, 3] rfl) hM hS h
    · replace h := h.1 c70
      refine lv_aload_n hx hb d_Y_arrive_152 rfl (hl.at 0 rfl) ?_
      obtain ⟨t92, h⟩ := h
      refine z_getR hx hb hW in_9 hown hK hM t92 (by decide) rfl 7 (by decide) rfl (hW _ k_592) rfl d_Y_arrive_153 ?_
      refine lv_iload_n hx hb d_Y_arrive_156 rfl (hl.at 1 rfl) ?_
      obtain ⟨b93, hb94, h⟩ := h
      rw [hb94]
      obtain ⟨n96, t95, h⟩ := h
      obtain ⟨i97, h⟩ := h
      refine z_zald hx hb hK hM t95 1 rfl i97 d_Y_arrive_157 ?_
      refine lv_if_ne (tgt := 173) hx hb d_Y_arrive_158 rfl (fun c98 => ?_) (fun c98 => ?_)
      · replace h := h.2 c98
        exact b_173 M H locs ls a0 x1 x2 x3 (hl.sub [0, 1, 2, 3] rfl) hM hS h
      · replace h := h.1 c98
        refine lv_aload_n hx hb d_Y_arrive_161 rfl (hl.at 0 rfl) ?_
        refine lv_iload_n hx hb d_Y_arrive_162 rfl (hl.at 1 rfl) ?_
        refine lv_iconst (v := (2 : Int32)) hx hb d_Y_arrive_163 (by decide) ?_
        refine lv_aload_n hx hb d_Y_arrive_164 rfl (hl.at 0 rfl) ?_
        refine z_getR hx hb hW in_9 hown hK hM t92 (by decide) rfl 1 (by decide) rfl (hW _ k_586) rfl d_Y_arrive_165 ?_
        refine lv_iload_n hx hb d_Y_arrive_168 rfl (hl.at 2 rfl) ?_
        obtain ⟨b99, hb100, h⟩ := h
        rw [hb100]
        obtain ⟨n102, t101, h⟩ := h
        obtain ⟨i103, h⟩ := h
        refine z_iald hx hb hK hM t101 0 rfl i103 d_Y_arrive_169 ?_
        refine z_ctv (mc := 0) (ms := 0) (va_runV (As := [.int x1, .int (2 : Int32), .int (zI M b99 x2.toNatClampNeg)]) (rest := []) ⟨hx, hb, hml, hown, hW⟩ (c_Y_field l ca D M H.size a0 x1 (2 : Int32) (zI M b99 x2.toNatClampNeg) _) (cw_Y_field hW k_730 ⟨by decide, by decide⟩) (zPre_V hK hN hM h t92 (by decide) rfl) rfl rfl hl.1.1 rfl (lv_room (Nat.le_of_ble_eq_true rfl)) d_Y_arrive_170 ⟨by decide, by decide⟩) hM hS hA (fun M104 H locs h hM hS => ?_)
        refine W.widen (k := 0) (n := 0) (by decide) (by decide) ?_
        exact b_173 M104 H locs ls a0 x1 x2 x3 (hl.sub [0, 1, 2, 3] rfl) hM hS h
  have b_117 : ∀ (M : zM) (H : Heap) (locs : List Loc) (ls : Array Slot) (a0 : Nat) (x1 : Int32) (x2 : Int32) (x3 : Int32), zL ls 4 [(0, .ref a0), (1, .int x1), (2, .int x2), (3, .int x3)] → zW ca D zcl A M H → va_S A s.heap H locs → w_Y_arrive_117 post M a0 x1 x2 x3 → W p l e rm_Y_arrive s m args below meth c H locs 0 0 Q (F0 m 117 ls []) := by
    intro M H locs ls a0 x1 x2 x3 hl hM hS h
    unfold w_Y_arrive_117 at h
    refine lv_iload_n hx hb d_Y_arrive_117 rfl (hl.at 3 rfl) ?_
    refine lv_sipush (v := (400 : Int32)) hx hb d_Y_arrive_118 (by decide) ?_
    refine lv_icmp_ge (tgt := 145) hx hb d_Y_arrive_121 rfl (fun c69 => ?_) (fun c69 => ?_)
    · replace h := h.1 c69
      exact b_145 M H locs ls a0 x1 x2 x3 (hl.sub [0, 1, 2, 3] rfl) hM hS h
    · replace h := h.2 c69
      refine lv_aload_n hx hb d_Y_arrive_124 rfl (hl.at 0 rfl) ?_
      obtain ⟨t105, h⟩ := h
      refine z_getR hx hb hW in_9 hown hK hM t105 (by decide) rfl 7 (by decide) rfl (hW _ k_592) rfl d_Y_arrive_125 ?_
      refine lv_iload_n hx hb d_Y_arrive_128 rfl (hl.at 1 rfl) ?_
      obtain ⟨b106, hb107, h⟩ := h
      rw [hb107]
      obtain ⟨n109, t108, h⟩ := h
      obtain ⟨i110, h⟩ := h
      refine z_zald hx hb hK hM t108 1 rfl i110 d_Y_arrive_129 ?_
      refine lv_if_ne (tgt := 145) hx hb d_Y_arrive_130 rfl (fun c111 => ?_) (fun c111 => ?_)
      · replace h := h.2 c111
        exact b_145 M H locs ls a0 x1 x2 x3 (hl.sub [0, 1, 2, 3] rfl) hM hS h
      · replace h := h.1 c111
        refine lv_aload_n hx hb d_Y_arrive_133 rfl (hl.at 0 rfl) ?_
        refine lv_iload_n hx hb d_Y_arrive_134 rfl (hl.at 1 rfl) ?_
        refine lv_iconst (v := (1 : Int32)) hx hb d_Y_arrive_135 (by decide) ?_
        refine lv_aload_n hx hb d_Y_arrive_136 rfl (hl.at 0 rfl) ?_
        refine z_getR hx hb hW in_9 hown hK hM t105 (by decide) rfl 2 (by decide) rfl (hW _ k_587) rfl d_Y_arrive_137 ?_
        refine lv_iload_n hx hb d_Y_arrive_140 rfl (hl.at 2 rfl) ?_
        obtain ⟨b112, hb113, h⟩ := h
        rw [hb113]
        obtain ⟨n115, t114, h⟩ := h
        obtain ⟨i116, h⟩ := h
        refine z_iald hx hb hK hM t114 0 rfl i116 d_Y_arrive_141 ?_
        refine z_ctv (mc := 0) (ms := 0) (va_runV (As := [.int x1, .int (1 : Int32), .int (zI M b112 x2.toNatClampNeg)]) (rest := []) ⟨hx, hb, hml, hown, hW⟩ (c_Y_field l ca D M H.size a0 x1 (1 : Int32) (zI M b112 x2.toNatClampNeg) _) (cw_Y_field hW k_730 ⟨by decide, by decide⟩) (zPre_V hK hN hM h t105 (by decide) rfl) rfl rfl hl.1.1 rfl (lv_room (Nat.le_of_ble_eq_true rfl)) d_Y_arrive_142 ⟨by decide, by decide⟩) hM hS hA (fun M117 H locs h hM hS => ?_)
        refine W.widen (k := 0) (n := 0) (by decide) (by decide) ?_
        exact b_145 M117 H locs ls a0 x1 x2 x3 (hl.sub [0, 1, 2, 3] rfl) hM hS h
  have b_49 : ∀ (M : zM) (H : Heap) (locs : List Loc) (ls : Array Slot) (a0 : Nat) (x1 : Int32), zL ls 4 [(0, .ref a0), (1, .int x1)] → zW ca D zcl A M H → va_S A s.heap H locs → w_Y_arrive_49 post M a0 x1 → W p l e rm_Y_arrive s m args below meth c H locs 0 0 Q (F0 m 49 ls []) := by
    intro M H locs ls a0 x1 hl hM hS h
    unfold w_Y_arrive_49 at h
    refine lv_aload_n hx hb d_Y_arrive_49 rfl (hl.at 0 rfl) ?_
    obtain ⟨t21, h⟩ := h
    refine z_getR hx hb hW in_9 hown hK hM t21 (by decide) rfl 8 (by decide) rfl (hW _ k_593) rfl d_Y_arrive_50 ?_
    refine lv_iload_n hx hb d_Y_arrive_53 rfl (hl.at 1 rfl) ?_
    obtain ⟨b22, hb23, h⟩ := h
    rw [hb23]
    obtain ⟨n25, t24, h⟩ := h
    obtain ⟨i26, h⟩ := h
    refine z_iald hx hb hK hM t24 0 rfl i26 d_Y_arrive_54 ?_
    refine z_istore_n hx hb d_Y_arrive_55 rfl hl (by decide) rfl (fun ls hl => ?_)
    have hl : zL ls 4 [(2, .int (zI M b22 x1.toNatClampNeg)), (0, .ref a0), (1, .int x1)] := hl
    refine lv_aload_n hx hb d_Y_arrive_56 rfl (hl.at 1 rfl) ?_
    refine lv_iload_n hx hb d_Y_arrive_57 rfl (hl.at 2 rfl) ?_
    refine z_cti (mc := 0) (ms := 0) (va_runV (As := [.int x1]) (rest := []) ⟨hx, hb, hml, hown, hW⟩ (c_Y_decide l ca D M H.size a0 x1 _) (cw_Y_decide hW k_726 ⟨by decide, by decide⟩) (zPre_V hK hN hM h t21 (by decide) rfl) rfl rfl hl.1.1 rfl (lv_room (Nat.le_of_ble_eq_true rfl)) d_Y_arrive_58 ⟨by decide, by decide⟩) hM hS hA (fun r27 M28 H locs h hM hS => ?_)
    refine z_istore_n hx hb d_Y_arrive_61 rfl hl (by decide) rfl (fun ls hl => ?_)
    have hl : zL ls 4 [(3, .int r27), (2, .int (zI M b22 x1.toNatClampNeg)), (0, .ref a0), (1, .int x1)] := hl
    refine lv_aload_n hx hb d_Y_arrive_62 rfl (hl.at 2 rfl) ?_
    obtain ⟨t29, h⟩ := h
    refine z_getR hx hb hW in_9 hown hK hM t29 (by decide) rfl 17 (by decide) rfl (hW _ k_602) rfl d_Y_arrive_63 ?_
    refine lv_iload_n hx hb d_Y_arrive_66 rfl (hl.at 3 rfl) ?_
    refine lv_aload_n hx hb d_Y_arrive_67 rfl (hl.at 2 rfl) ?_
    refine z_getR hx hb hW in_9 hown hK hM t29 (by decide) rfl 3 (by decide) rfl (hW _ k_588) rfl d_Y_arrive_68 ?_
    refine lv_iload_n hx hb d_Y_arrive_71 rfl (hl.at 1 rfl) ?_
    obtain ⟨b30, hb31, h⟩ := h
    rw [hb31]
    obtain ⟨n33, t32, h⟩ := h
    obtain ⟨i34, h⟩ := h
    refine z_iald hx hb hK hM t32 0 rfl i34 d_Y_arrive_72 ?_
    obtain ⟨b35, hb36, h⟩ := h
    rw [hb36]
    obtain ⟨n38, t37, h⟩ := h
    obtain ⟨i39, h⟩ := h
    refine z_iast hx hb hK hM hS t37 0 rfl i39 d_Y_arrive_73 (fun H locs hM hS => ?_)
    obtain ⟨M40, e41⟩ : ∃ z, z = zwI M28 b35 x1.toNatClampNeg (zI M28 b30 (zI M b22 x1.toNatClampNeg).toNatClampNeg) := ⟨_, rfl⟩
    replace h := h M40 e41
    rw [← e41] at hM
    refine lv_aload_n hx hb d_Y_arrive_74 rfl (hl.at 2 rfl) ?_
    have t42 : zT M40 a0 = some (9, 40) := by rw [e41]; exact t29
    refine z_getR hx hb hW in_9 hown hK hM t42 (by decide) rfl 18 (by decide) rfl (hW _ k_603) rfl d_Y_arrive_75 ?_
    refine lv_iload_n hx hb d_Y_arrive_78 rfl (hl.at 3 rfl) ?_
    refine lv_aload_n hx hb d_Y_arrive_79 rfl (hl.at 2 rfl) ?_
    refine z_getR hx hb hW in_9 hown hK hM t42 (by decide) rfl 2 (by decide) rfl (hW _ k_587) rfl d_Y_arrive_80 ?_
    refine lv_iload_n hx hb d_Y_arrive_83 rfl (hl.at 1 rfl) ?_
    obtain ⟨b43, hb44, h⟩ := h
    rw [hb44]
    obtain ⟨n46, t45, h⟩ := h
    obtain ⟨i47, h⟩ := h
    refine z_iald hx hb hK hM t45 0 rfl i47 d_Y_arrive_84 ?_
    obtain ⟨b48, hb49, h⟩ := h
    rw [hb49]
    obtain ⟨n51, t50, h⟩ := h
    obtain ⟨i52, h⟩ := h
    refine z_iast hx hb hK hM hS t50 0 rfl i52 d_Y_arrive_85 (fun H locs hM hS => ?_)
    obtain ⟨M53, e54⟩ : ∃ z, z = zwI M40 b48 x1.toNatClampNeg (zI M40 b43 (zI M b22 x1.toNatClampNeg).toNatClampNeg) := ⟨_, rfl⟩
    replace h := h M53 e54
    rw [← e54] at hM
    refine lv_aload_n hx hb d_Y_arrive_86 rfl (hl.at 2 rfl) ?_
    have t55 : zT M53 a0 = some (9, 40) := by rw [e54]; exact t42
    refine z_getR hx hb hW in_9 hown hK hM t55 (by decide) rfl 19 (by decide) rfl (hW _ k_604) rfl d_Y_arrive_87 ?_
    refine lv_iload_n hx hb d_Y_arrive_90 rfl (hl.at 3 rfl) ?_
    refine lv_aload_n hx hb d_Y_arrive_91 rfl (hl.at 2 rfl) ?_
    refine z_getR hx hb hW in_9 hown hK hM t55 (by decide) rfl 1 (by decide) rfl (hW _ k_586) rfl d_Y_arrive_92 ?_
    refine lv_iload_n hx hb d_Y_arrive_95 rfl (hl.at 1 rfl) ?_
    obtain ⟨b56, hb57, h⟩ := h
    rw [hb57]
    obtain ⟨n59, t58, h⟩ := h
    obtain ⟨i60, h⟩ := h
    refine z_iald hx hb hK hM t58 0 rfl i60 d_Y_arrive_96 ?_
    obtain ⟨b61, hb62, h⟩ := h
    rw [hb62]
    obtain ⟨n64, t63, h⟩ := h
    obtain ⟨i65, h⟩ := h
    refine z_iast hx hb hK hM hS t63 0 rfl i65 d_Y_arrive_97 (fun H locs hM hS => ?_)
    obtain ⟨M66, e67⟩ : ∃ z, z = zwI M53 b61 x1.toNatClampNeg (zI M53 b56 (zI M b22 x1.toNatClampNeg).toNatClampNeg) := ⟨_, rfl⟩
    replace h := h M66 e67
    rw [← e67] at hM
    refine lv_iload_n hx hb d_Y_arrive_98 rfl (hl.at 0 rfl) ?_
    refine lv_sipush (v := (400 : Int32)) hx hb d_Y_arrive_99 (by decide) ?_
    refine lv_icmp_ge (tgt := 117) hx hb d_Y_arrive_102 rfl (fun c68 => ?_) (fun c68 => ?_)
    · replace h := h.1 c68
      refine W.widen (k := 0) (n := 0) (by decide) (by decide) ?_
      exact b_117 M66 H locs ls a0 x1 (zI M b22 x1.toNatClampNeg) r27 (hl.sub [2, 3, 1, 0] rfl) hM hS h
    · replace h := h.2 c68
      refine lv_aload_n hx hb d_Y_arrive_105 rfl (hl.at 2 rfl) ?_
      refine lv_iload_n hx hb d_Y_arrive_106 rfl (hl.at 3 rfl) ?_
      refine lv_iconst (v := (0 : Int32)) hx hb d_Y_arrive_107 (by decide) ?_
      refine lv_aload_n hx hb d_Y_arrive_108 rfl (hl.at 2 rfl) ?_
      have t118 : zT M66 a0 = some (9, 40) := by rw [e67]; exact t55
      refine z_getR hx hb hW in_9 hown hK hM t118 (by decide) rfl 3 (by decide) rfl (hW _ k_588) rfl d_Y_arrive_109 ?_
      refine lv_iload_n hx hb d_Y_arrive_112 rfl (hl.at 1 rfl) ?_
      obtain ⟨b119, hb120, h⟩ := h
      rw [hb120]
      obtain ⟨n122, t121, h⟩ := h
      obtain ⟨i123, h⟩ := h
      refine z_iald hx hb hK hM t121 0 rfl i123 d_Y_arrive_113 ?_
      refine z_ctv (mc := 0) (ms := 0) (va_runV (As := [.int x1, .int (0 : Int32), .int (zI M66 b119 (zI M b22 x1.toNatClampNeg).toNatClampNeg)]) (rest := []) ⟨hx, hb, hml, hown, hW⟩ (c_Y_field l ca D M66 H.size a0 x1 (0 : Int32) (zI M66 b119 (zI M b22 x1.toNatClampNeg).toNatClampNeg) _) (cw_Y_field hW k_730 ⟨by decide, by decide⟩) (zPre_V hK hN hM h t118 (by decide) rfl) rfl rfl hl.1.1 rfl (lv_room (Nat.le_of_ble_eq_true rfl)) d_Y_arrive_114 ⟨by decide, by decide⟩) hM hS hA (fun M124 H locs h hM hS => ?_)
      refine W.widen (k := 0) (n := 0) (by decide) (by decide) ?_
      exact b_117 M124 H locs ls a0 x1 (zI M b22 x1.toNatClampNeg) r27 (hl.sub [2, 3, 1, 0] rfl) hM hS h
  have b_start : ∀ (M : zM) (H : Heap) (locs : List Loc) (ls : Array Slot) (a0 : Nat) (x1 : Int32), zL ls 4 [(0, .ref a0), (1, .int x1)] → zW ca D zcl A M H → va_S A s.heap H locs → w_Y_arrive M a0 x1 post → W p l e rm_Y_arrive s m args below meth c H locs 0 0 Q (F0 m 0 ls []) := by
    intro M H locs ls a0 x1 hl hM hS h
    unfold w_Y_arrive at h
    refine lv_iload_n hx hb d_Y_arrive_0 rfl (hl.at 1 rfl) ?_
    refine lv_aload_n hx hb d_Y_arrive_1 rfl (hl.at 0 rfl) ?_
    obtain ⟨t1, h⟩ := h
    refine z_getI hx hb hW in_9 hown hK hM t1 (by decide) rfl 6 (by decide) rfl (hW _ k_591) rfl d_Y_arrive_2 ?_
    refine lv_iconst (v := (1 : Int32)) hx hb d_Y_arrive_5 (by decide) ?_
    refine lv_isub hx hb d_Y_arrive_6 ?_
    refine z_cti (mc := 0) (ms := 0) (va_runS (As := [.int x1, .int ((zI M a0 6) - (1 : Int32))]) (rest := []) ⟨hx, hb, hml, hown, hW⟩ (c_Y_within l ca D M H.size x1 ((zI M a0 6) - (1 : Int32)) _) (cw_Y_within hW k_711 ⟨by decide, by decide⟩) (zPre_S hK hN hM h) rfl rfl hl.1.1 rfl (lv_room (Nat.le_of_ble_eq_true rfl)) d_Y_arrive_7 ⟨by decide, by decide⟩) hM hS hA (fun r2 M3 H locs h hM hS => ?_)
    refine lv_if_eq (tgt := 23) hx hb d_Y_arrive_10 rfl (fun c4 => ?_) (fun c4 => ?_)
    · replace h := h.1 c4
      refine W.widen (k := 0) (n := 0) (by decide) (by decide) ?_
      exact b_23 M3 H locs ls a0 x1 (hl.sub [0, 1] rfl) hM hS h
    · replace h := h.2 c4
      refine lv_aload_n hx hb d_Y_arrive_13 rfl (hl.at 0 rfl) ?_
      obtain ⟨t5, h⟩ := h
      refine z_getR hx hb hW in_9 hown hK hM t5 (by decide) rfl 15 (by decide) rfl (hW _ k_600) rfl d_Y_arrive_14 ?_
      refine lv_iload_n hx hb d_Y_arrive_17 rfl (hl.at 1 rfl) ?_
      obtain ⟨b6, hb7, h⟩ := h
      rw [hb7]
      obtain ⟨n9, t8, h⟩ := h
      obtain ⟨i10, h⟩ := h
      refine z_iald hx hb hK hM t8 0 rfl i10 d_Y_arrive_18 ?_
      refine lv_iconst (v := (1 : Int32)) hx hb d_Y_arrive_19 (by decide) ?_
      refine lv_icmp_eq (tgt := 25) hx hb d_Y_arrive_20 rfl (fun c11 => ?_) (fun c11 => ?_)
      · replace h := h.1 c11
        refine lv_aload_n hx hb d_Y_arrive_25 rfl (hl.at 0 rfl) ?_
        refine z_getR hx hb hW in_9 hown hK hM t5 (by decide) rfl 15 (by decide) rfl (hW _ k_600) rfl d_Y_arrive_26 ?_
        refine lv_iload_n hx hb d_Y_arrive_29 rfl (hl.at 1 rfl) ?_
        refine lv_iconst (v := (0 : Int32)) hx hb d_Y_arrive_30 (by decide) ?_
        obtain ⟨b12, hb13, h⟩ := h
        rw [hb13]
        obtain ⟨n15, t14, h⟩ := h
        obtain ⟨i16, h⟩ := h
        refine z_iast hx hb hK hM hS t14 0 rfl i16 d_Y_arrive_31 (fun H locs hM hS => ?_)
        obtain ⟨M17, e18⟩ : ∃ z, z = zwI M3 b12 x1.toNatClampNeg (0 : Int32) := ⟨_, rfl⟩
        replace h := h M17 e18
        rw [← e18] at hM
        refine lv_aload_n hx hb d_Y_arrive_32 rfl (hl.at 0 rfl) ?_
        have t19 : zT M17 a0 = some (9, 40) := by rw [e18]; exact t5
        refine z_getI hx hb hW in_9 hown hK hM t19 (by decide) rfl 36 (by decide) rfl (hW _ k_621) rfl d_Y_arrive_33 ?_
        refine lv_if_eq (tgt := 49) hx hb d_Y_arrive_36 rfl (fun c20 => ?_) (fun c20 => ?_)
        · replace h := h.1 c20
          refine W.widen (k := 0) (n := 0) (by decide) (by decide) ?_
          exact b_49 M17 H locs ls a0 x1 (hl.sub [0, 1] rfl) hM hS h
        · replace h := h.2 c20
          refine lv_iload_n hx hb d_Y_arrive_39 rfl (hl.at 1 rfl) ?_
          refine lv_aload_n hx hb d_Y_arrive_40 rfl (hl.at 0 rfl) ?_
          refine z_getI hx hb hW in_9 hown hK hM t19 (by decide) rfl 38 (by decide) rfl (hW _ k_623) rfl d_Y_arrive_41 ?_
          refine lv_icmp_lt (tgt := 49) hx hb d_Y_arrive_44 rfl (fun c125 => ?_) (fun c125 => ?_)
          · replace h := h.1 c125
            refine W.widen (k := 0) (n := 0) (by decide) (by decide) ?_
            exact b_49 M17 H locs ls a0 x1 (hl.sub [0, 1] rfl) hM hS h
          · replace h := h.2 c125
            refine lv_iconst (v := (0 : Int32)) hx hb d_Y_arrive_47 (by decide) ?_
            refine W.widen (k := 0) (n := 0) (by decide) (by decide) ?_
            rw [← hQ]
            exact z_iret hx hb hr hlk hK hM hS h d_Y_arrive_48
      · replace h := h.2 c11
        refine W.widen (k := 0) (n := 0) (by decide) (by decide) ?_
        exact b_23 M3 H locs ls a0 x1 (hl.sub [0, 1] rfl) hM hS h
  exact b_start M s.heap [] ls a0 x1 hl hM hS h
