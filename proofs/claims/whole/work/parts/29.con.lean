set_option maxHeartbeats 4000000 in
set_option maxRecDepth 100000 in
theorem c_Y_get (l : Launch) (ca : Nat → ClassId) (D : va_G) (M : zM) (sz : Nat) (a0 : Nat) (x1 : Int32) (post : Int32 → zM → Prop) : Met l y_Y_get (Cond.code y_Y_get prog_11_method_19_code 2 (some .int) :: zws) rm_Y_get (zPre ca D zcl (ztys ca) [.ref a0, .int x1] M sz (w_Y_get M a0 x1 post)) (va_Qi post (zB ca D zcl (ztys ca) (zA M sz)) (zA M sz)) 0 0 (zA M sz) := by
  refine z_met (cc := prog_11_method_19_code) (maxL := 2) (ret := (some .int)) (plainFor_of_name (by decide)) rfl (by simp [Value.category]) (Nat.le_of_ble_eq_true rfl) ?_
  intro p e s m args below meth c ls A hx hb hr hlk hml hts hown hnm hK hN hl hA0 hM hS hA h
  rw [← hA0]
  have hW : ∀ w ∈ zws, w.before args s = true := fun w hw => hts w (List.mem_cons_of_mem _ hw)
  have hl : zL ls 2 [(0, .ref a0), (1, .int x1)] := hl
  generalize hQ : MQ below (va_Qi post (zB ca D zcl (ztys ca) A) A) args s 0 0 A = Q
  have b_start : ∀ (M : zM) (H : Heap) (locs : List Loc) (ls : Array Slot) (a0 : Nat) (x1 : Int32), zL ls 2 [(0, .ref a0), (1, .int x1)] → zW ca D zcl A M H → va_S A s.heap H locs → w_Y_get M a0 x1 post → W p l e rm_Y_get s m args below meth c H locs 0 0 Q (F0 m 0 ls []) := by
    intro M H locs ls a0 x1 hl hM hS h
    unfold w_Y_get at h
    refine lv_iload_n hx hb d_Y_get_0 rfl (hl.at 1 rfl) ?_
    refine lv_iconst (v := (5 : Int32)) hx hb d_Y_get_1 (by decide) ?_
    refine z_cti (mc := 0) (ms := 0) (va_runS (As := [.int x1, .int (5 : Int32)]) (rest := []) ⟨hx, hb, hml, hown, hW⟩ (c_Y_within l ca D M H.size x1 (5 : Int32) _) (cw_Y_within hW k_711 ⟨by decide, by decide⟩) (zPre_S hK hN hM h) rfl rfl hl.1.1 rfl (lv_room (Nat.le_of_ble_eq_true rfl)) d_Y_get_2 ⟨by decide, by decide⟩) hM hS hA (fun r1 M2 H locs h hM hS => ?_)
    refine lv_if_eq (tgt := 28) hx hb d_Y_get_5 rfl (fun c3 => ?_) (fun c3 => ?_)
    · replace h := h.1 c3
      refine lv_iconst (v := (-1 : Int32)) hx hb d_Y_get_28 (by decide) ?_
      refine W.widen (k := 0) (n := 0) (by decide) (by decide) ?_
      rw [← hQ]
      exact z_iret hx hb hr hlk hK hM hS h d_Y_get_29
    · replace h := h.2 c3
      refine lv_aload_n hx hb d_Y_get_8 rfl (hl.at 0 rfl) ?_
      obtain ⟨t4, h⟩ := h
      refine z_getI hx hb hW in_9 hown hK hM t4 (by decide) rfl 6 (by decide) rfl (hW _ k_591) rfl d_Y_get_9 ?_
      refine lv_bipush (v := (60 : Int32)) hx hb d_Y_get_12 (by decide) ?_
      refine lv_icmp_ge (tgt := 28) hx hb d_Y_get_14 rfl (fun c5 => ?_) (fun c5 => ?_)
      · replace h := h.1 c5
        refine lv_iconst (v := (-1 : Int32)) hx hb d_Y_get_28 (by decide) ?_
        refine W.widen (k := 0) (n := 0) (by decide) (by decide) ?_
        rw [← hQ]
        exact z_iret hx hb hr hlk hK hM hS h d_Y_get_29
      · replace h := h.2 c5
        refine lv_aload_n hx hb d_Y_get_17 rfl (hl.at 0 rfl) ?_
        refine lv_iload_n hx hb d_Y_get_18 rfl (hl.at 1 rfl) ?_
        refine lv_iconst (v := (0 : Int32)) hx hb d_Y_get_19 (by decide) ?_
        refine lv_iconst (v := (0 : Int32)) hx hb d_Y_get_20 (by decide) ?_
        refine lv_iconst (v := (0 : Int32)) hx hb d_Y_get_21 (by decide) ?_
        refine z_cti (mc := 0) (ms := 0) (va_runV (As := [.int x1, .int (0 : Int32), .int (0 : Int32), .int (0 : Int32)]) (rest := []) ⟨hx, hb, hml, hown, hW⟩ (c_Y_ask l ca D M2 H.size a0 x1 (0 : Int32) (0 : Int32) (0 : Int32) _) (cw_Y_ask hW k_770 ⟨by decide, by decide⟩) (zPre_V hK hN hM h t4 (by decide) rfl) rfl rfl hl.1.1 rfl (lv_room (Nat.le_of_ble_eq_true rfl)) d_Y_get_22 ⟨by decide, by decide⟩) hM hS hA (fun r6 M7 H locs h hM hS => ?_)
        refine lv_goto (tgt := 29) hx hb d_Y_get_25 rfl ?_
        refine W.widen (k := 0) (n := 0) (by decide) (by decide) ?_
        rw [← hQ]
        exact z_iret hx hb hr hlk hK hM hS h d_Y_get_29
  exact b_start M s.heap [] ls a0 x1 hl hM hS h
set_option maxHeartbeats 4000000 in
set_option maxRecDepth 100000 in
theorem c_Y_replace (l : Launch) (ca : Nat → ClassId) (D : va_G) (M : zM) (sz : Nat) (a0 : Nat) (x1 : Int32) (x2 : Int32) (x3 : Int32) (post : Int32 → zM → Prop) : Met l y_Y_replace (Cond.code y_Y_replace prog_11_method_20_code 4 (some .int) :: zws) rm_Y_replace (zPre ca D zcl (ztys ca) [.ref a0, .int x1, .int x2, .int x3] M sz (w_Y_replace M a0 x1 x2 x3 post)) (va_Qi post (zB ca D zcl (ztys ca) (zA M sz)) (zA M sz)) 0 0 (zA M sz) := by
  refine z_met (cc := prog_11_method_20_code) (maxL := 4) (ret := (some .int)) (plainFor_of_name (by decide)) rfl (by simp [Value.category]) (Nat.le_of_ble_eq_true rfl) ?_
  intro p e s m args below meth c ls A hx hb hr hlk hml hts hown hnm hK hN hl hA0 hM hS hA h
  rw [← hA0]
  have hW : ∀ w ∈ zws, w.before args s = true := fun w hw => hts w (List.mem_cons_of_mem _ hw)
  have hl : zL ls 4 [(0, .ref a0), (1, .int x1), (2, .int x2), (3, .int x3)] := hl
  generalize hQ : MQ below (va_Qi post (zB ca D zcl (ztys ca) A) A) args s 0 0 A = Q
  have b_start : ∀ (M : zM) (H : Heap) (locs : List Loc) (ls : Array Slot) (a0 : Nat) (x1 : Int32) (x2 : Int32) (x3 : Int32), zL ls 4 [(0, .ref a0), (1, .int x1), (2, .int x2), (3, .int x3)] → zW ca D zcl A M H → va_S A s.heap H locs → w_Y_replace M a0 x1 x2 x3 post → W p l e rm_Y_replace s m args below meth c H locs 0 0 Q (F0 m 0 ls []) := by
    intro M H locs ls a0 x1 x2 x3 hl hM hS h
    unfold w_Y_replace at h
    refine lv_iload_n hx hb d_Y_replace_0 rfl (hl.at 1 rfl) ?_
    refine lv_iconst (v := (5 : Int32)) hx hb d_Y_replace_1 (by decide) ?_
    refine z_cti (mc := 0) (ms := 0) (va_runS (As := [.int x1, .int (5 : Int32)]) (rest := []) ⟨hx, hb, hml, hown, hW⟩ (c_Y_within l ca D M H.size x1 (5 : Int32) _) (cw_Y_within hW k_711 ⟨by decide, by decide⟩) (zPre_S hK hN hM h) rfl rfl hl.1.1 rfl (lv_room (Nat.le_of_ble_eq_true rfl)) d_Y_replace_2 ⟨by decide, by decide⟩) hM hS hA (fun r1 M2 H locs h hM hS => ?_)
    refine lv_if_eq (tgt := 38) hx hb d_Y_replace_5 rfl (fun c3 => ?_) (fun c3 => ?_)
    · replace h := h.1 c3
      refine lv_iconst (v := (-1 : Int32)) hx hb d_Y_replace_38 (by decide) ?_
      refine W.widen (k := 0) (n := 0) (by decide) (by decide) ?_
      rw [← hQ]
      exact z_iret hx hb hr hlk hK hM hS h d_Y_replace_39
    · replace h := h.2 c3
      refine lv_iload_n hx hb d_Y_replace_8 rfl (hl.at 3 rfl) ?_
      refine lv_sipush (v := (1000 : Int32)) hx hb d_Y_replace_9 (by decide) ?_
      refine z_cti (mc := 0) (ms := 0) (va_runS (As := [.int x3, .int (1000 : Int32)]) (rest := []) ⟨hx, hb, hml, hown, hW⟩ (c_Y_within l ca D M2 H.size x3 (1000 : Int32) _) (cw_Y_within hW k_711 ⟨by decide, by decide⟩) (zPre_S hK hN hM h) rfl rfl hl.1.1 rfl (lv_room (Nat.le_of_ble_eq_true rfl)) d_Y_replace_12 ⟨by decide, by decide⟩) hM hS hA (fun r4 M5 H locs h hM hS => ?_)
      refine lv_if_eq (tgt := 38) hx hb d_Y_replace_15 rfl (fun c6 => ?_) (fun c6 => ?_)
      · replace h := h.1 c6
        refine lv_iconst (v := (-1 : Int32)) hx hb d_Y_replace_38 (by decide) ?_
        refine W.widen (k := 0) (n := 0) (by decide) (by decide) ?_
        rw [← hQ]
        exact z_iret hx hb hr hlk hK hM hS h d_Y_replace_39
      · replace h := h.2 c6
        refine lv_aload_n hx hb d_Y_replace_18 rfl (hl.at 0 rfl) ?_
        obtain ⟨t7, h⟩ := h
        refine z_getI hx hb hW in_9 hown hK hM t7 (by decide) rfl 6 (by decide) rfl (hW _ k_591) rfl d_Y_replace_19 ?_
        refine lv_bipush (v := (60 : Int32)) hx hb d_Y_replace_22 (by decide) ?_
        refine lv_icmp_ge (tgt := 38) hx hb d_Y_replace_24 rfl (fun c8 => ?_) (fun c8 => ?_)
        · replace h := h.1 c8
          refine lv_iconst (v := (-1 : Int32)) hx hb d_Y_replace_38 (by decide) ?_
          refine W.widen (k := 0) (n := 0) (by decide) (by decide) ?_
          rw [← hQ]
          exact z_iret hx hb hr hlk hK hM hS h d_Y_replace_39
        · replace h := h.2 c8
          refine lv_aload_n hx hb d_Y_replace_27 rfl (hl.at 0 rfl) ?_
          refine lv_iload_n hx hb d_Y_replace_28 rfl (hl.at 1 rfl) ?_
          refine lv_iconst (v := (1 : Int32)) hx hb d_Y_replace_29 (by decide) ?_
          refine lv_iload_n hx hb d_Y_replace_30 rfl (hl.at 2 rfl) ?_
          refine lv_iload_n hx hb d_Y_replace_31 rfl (hl.at 3 rfl) ?_
          refine z_cti (mc := 0) (ms := 0) (va_runV (As := [.int x1, .int (1 : Int32), .int x2, .int x3]) (rest := []) ⟨hx, hb, hml, hown, hW⟩ (c_Y_ask l ca D M5 H.size a0 x1 (1 : Int32) x2 x3 _) (cw_Y_ask hW k_770 ⟨by decide, by decide⟩) (zPre_V hK hN hM h t7 (by decide) rfl) rfl rfl hl.1.1 rfl (lv_room (Nat.le_of_ble_eq_true rfl)) d_Y_replace_32 ⟨by decide, by decide⟩) hM hS hA (fun r9 M10 H locs h hM hS => ?_)
          refine lv_goto (tgt := 39) hx hb d_Y_replace_35 rfl ?_
          refine W.widen (k := 0) (n := 0) (by decide) (by decide) ?_
          rw [← hQ]
          exact z_iret hx hb hr hlk hK hM hS h d_Y_replace_39
  exact b_start M s.heap [] ls a0 x1 x2 x3 hl hM hS h
set_option maxHeartbeats 4000000 in
set_option maxRecDepth 100000 in
theorem c_Y_read (l : Launch) (ca : Nat → ClassId) (D : va_G) (M : zM) (sz : Nat) (a0 : Nat) (x1 : Int32) (post : Int32 → zM → Prop) : Met l y_Y_read (Cond.code y_Y_read prog_11_method_21_code 5 (some .int) :: zws) rm_Y_read (zPre ca D zcl (ztys ca) [.ref a0, .int x1] M sz (w_Y_read M a0 x1 post)) (va_Qi post (zB ca D zcl (ztys ca) (zA M sz)) (zA M sz)) 0 0 (zA M sz) := by
  refine z_met (cc := prog_11_method_21_code) (maxL := 5) (ret := (some .int)) (plainFor_of_name (by decide)) rfl (by simp [Value.category]) (Nat.le_of_ble_eq_true rfl) ?_
  intro p e s m args below meth c ls A hx hb hr hlk hml hts hown hnm hK hN hl hA0 hM hS hA h
  rw [← hA0]
  have hW : ∀ w ∈ zws, w.before args s = true := fun w hw => hts w (List.mem_cons_of_mem _ hw)
  have hl : zL ls 5 [(0, .ref a0), (1, .int x1)] := hl
  generalize hQ : MQ below (va_Qi post (zB ca D zcl (ztys ca) A) A) args s 0 0 A = Q
  have b_247 : ∀ (M : zM) (H : Heap) (locs : List Loc) (ls : Array Slot) (a0 : Nat) (x1 : Int32) (x2 : Int32) (x3 : Int32) (x4 : Int32) (w0 : Option Nat) (u1 : Int32) (u2 : Int32), zL ls 5 [(0, .ref a0), (1, .int x1), (2, .int x2), (3, .int x3), (4, .int x4)] → zW ca D zcl A M H → va_S A s.heap H locs → w_Y_read_247 post M a0 x1 x2 x3 x4 w0 u1 u2 → W p l e rm_Y_read s m args below meth c H locs 0 0 Q (F0 m 247 ls [.int u2, .int u1, va_rf w0]) := by
    intro M H locs ls a0 x1 x2 x3 x4 w0 u1 u2 hl hM hS h
    unfold w_Y_read_247 at h
    obtain ⟨b31, hb32, h⟩ := h
    subst hb32
    obtain ⟨n34, t33, h⟩ := h
    obtain ⟨i35, h⟩ := h
    refine z_iast hx hb hK hM hS t33 0 rfl i35 d_Y_read_247 (fun H locs hM hS => ?_)
    obtain ⟨M36, e37⟩ : ∃ z, z = zwI M b31 u1.toNatClampNeg u2 := ⟨_, rfl⟩
    replace h := h M36 e37
    rw [← e37] at hM
    refine lv_aload_n hx hb d_Y_read_248 rfl (hl.at 0 rfl) ?_
    obtain ⟨t38, h⟩ := h
    refine z_getR hx hb hW in_9 hown hK hM t38 (by decide) rfl 21 (by decide) rfl (hW _ k_606) rfl d_Y_read_249 ?_
    refine lv_iload_n hx hb d_Y_read_252 rfl (hl.at 2 rfl) ?_
    refine lv_iload hx hb d_Y_read_253 (hl.at 4 rfl) ?_
    refine lv_if_eq (tgt := 262) hx hb d_Y_read_255 rfl (fun c39 => ?_) (fun c39 => ?_)
    · replace h := h.1 c39
      refine lv_aload_n hx hb d_Y_read_262 rfl (hl.at 0 rfl) ?_
      refine z_getR hx hb hW in_9 hown hK hM t38 (by decide) rfl 21 (by decide) rfl (hW _ k_606) rfl d_Y_read_263 ?_
      refine lv_iload_n hx hb d_Y_read_266 rfl (hl.at 2 rfl) ?_
      obtain ⟨b40, hb41, h⟩ := h
      rw [hb41]
      obtain ⟨n43, t42, h⟩ := h
      obtain ⟨i44, h⟩ := h
      refine z_iald hx hb hK hM t42 0 rfl i44 d_Y_read_267 ?_
      obtain ⟨i45, h⟩ := h
      refine z_iast hx hb hK hM hS t42 0 rfl i45 d_Y_read_268 (fun H locs hM hS => ?_)
      obtain ⟨M46, e47⟩ : ∃ z, z = zwI M36 b40 x2.toNatClampNeg (zI M36 b40 x2.toNatClampNeg) := ⟨_, rfl⟩
      replace h := h M46 e47
      rw [← e47] at hM
      refine lv_aload_n hx hb d_Y_read_269 rfl (hl.at 0 rfl) ?_
      refine lv_iload_n hx hb d_Y_read_270 rfl (hl.at 1 rfl) ?_
      have t48 : zT M46 a0 = some (9, 40) := by rw [e47]; exact t38
      refine z_cti (mc := 0) (ms := 0) (va_runV (As := [.int x1]) (rest := []) ⟨hx, hb, hml, hown, hW⟩ (c_Y_need l ca D M46 H.size a0 x1 _) (cw_Y_need hW k_738 ⟨by decide, by decide⟩) (zPre_V hK hN hM h t48 (by decide) rfl) rfl rfl hl.1.1 rfl (lv_room (Nat.le_of_ble_eq_true rfl)) d_Y_read_271 ⟨by decide, by decide⟩) hM hS hA (fun r49 M50 H locs h hM hS => ?_)
      refine lv_if_le (tgt := 283) hx hb d_Y_read_274 rfl (fun c51 => ?_) (fun c51 => ?_)
      · replace h := h.1 c51
        refine lv_aload_n hx hb d_Y_read_283 rfl (hl.at 0 rfl) ?_
        obtain ⟨t52, h⟩ := h
        refine z_getR hx hb hW in_9 hown hK hM t52 (by decide) rfl 9 (by decide) rfl (hW _ k_594) rfl d_Y_read_284 ?_
        refine lv_iload_n hx hb d_Y_read_287 rfl (hl.at 1 rfl) ?_
        obtain ⟨b53, hb54, h⟩ := h
        rw [hb54]
        obtain ⟨n56, t55, h⟩ := h
        obtain ⟨i57, h⟩ := h
        refine z_iald hx hb hK hM t55 0 rfl i57 d_Y_read_288 ?_
        refine W.widen (k := 0) (n := 0) (by decide) (by decide) ?_
        rw [← hQ]
        exact z_iret hx hb hr hlk hK hM hS h d_Y_read_289
      · replace h := h.2 c51
        refine lv_aload_n hx hb d_Y_read_277 rfl (hl.at 0 rfl) ?_
        refine lv_iconst (v := (0 : Int32)) hx hb d_Y_read_278 (by decide) ?_
        refine lv_iload_n hx hb d_Y_read_279 rfl (hl.at 1 rfl) ?_
        obtain ⟨t58, h⟩ := h
        refine z_ctv (mc := 0) (ms := 0) (va_runV (As := [.int (0 : Int32), .int x1]) (rest := []) ⟨hx, hb, hml, hown, hW⟩ (c_Y_tell l ca D M50 H.size a0 (0 : Int32) x1 _) (cw_Y_tell hW k_786 ⟨by decide, by decide⟩) (zPre_V hK hN hM h t58 (by decide) rfl) rfl rfl hl.1.1 rfl (lv_room (Nat.le_of_ble_eq_true rfl)) d_Y_read_280 ⟨by decide, by decide⟩) hM hS hA (fun M59 H locs h hM hS => ?_)
        refine lv_aload_n hx hb d_Y_read_283 rfl (hl.at 0 rfl) ?_
        obtain ⟨t60, h⟩ := h
        refine z_getR hx hb hW in_9 hown hK hM t60 (by decide) rfl 9 (by decide) rfl (hW _ k_594) rfl d_Y_read_284 ?_
        refine lv_iload_n hx hb d_Y_read_287 rfl (hl.at 1 rfl) ?_
        obtain ⟨b61, hb62, h⟩ := h
        rw [hb62]
        obtain ⟨n64, t63, h⟩ := h
        obtain ⟨i65, h⟩ := h
        refine z_iald hx hb hK hM t63 0 rfl i65 d_Y_read_288 ?_
        refine W.widen (k := 0) (n := 0) (by decide) (by decide) ?_
        rw [← hQ]
        exact z_iret hx hb hr hlk hK hM hS h d_Y_read_289
    · replace h := h.2 c39
      refine lv_iconst (v := (-1 : Int32)) hx hb d_Y_read_258 (by decide) ?_
      refine lv_goto (tgt := 268) hx hb d_Y_read_259 rfl ?_
      obtain ⟨b66, hb67, h⟩ := h
      rw [hb67]
      obtain ⟨n69, t68, h⟩ := h
      obtain ⟨i70, h⟩ := h
      refine z_iast hx hb hK hM hS t68 0 rfl i70 d_Y_read_268 (fun H locs hM hS => ?_)
      obtain ⟨M71, e72⟩ : ∃ z, z = zwI M36 b66 x2.toNatClampNeg (-1 : Int32) := ⟨_, rfl⟩
      replace h := h M71 e72
      rw [← e72] at hM
      refine lv_aload_n hx hb d_Y_read_269 rfl (hl.at 0 rfl) ?_
      refine lv_iload_n hx hb d_Y_read_270 rfl (hl.at 1 rfl) ?_
      have t73 : zT M71 a0 = some (9, 40) := by rw [e72]; exact t38
      refine z_cti (mc := 0) (ms := 0) (va_runV (As := [.int x1]) (rest := []) ⟨hx, hb, hml, hown, hW⟩ (c_Y_need l ca D M71 H.size a0 x1 _) (cw_Y_need hW k_738 ⟨by decide, by decide⟩) (zPre_V hK hN hM h t73 (by decide) rfl) rfl rfl hl.1.1 rfl (lv_room (Nat.le_of_ble_eq_true rfl)) d_Y_read_271 ⟨by decide, by decide⟩) hM hS hA (fun r74 M75 H locs h hM hS => ?_)
      refine lv_if_le (tgt := 283) hx hb d_Y_read_274 rfl (fun c76 => ?_) (fun c76 => ?_)
      · replace h := h.1 c76
        refine lv_aload_n hx hb d_Y_read_283 rfl (hl.at 0 rfl) ?_
        obtain ⟨t77, h⟩ := h
        refine z_getR hx hb hW in_9 hown hK hM t77 (by decide) rfl 9 (by decide) rfl (hW _ k_594) rfl d_Y_read_284 ?_
        refine lv_iload_n hx hb d_Y_read_287 rfl (hl.at 1 rfl) ?_
        obtain ⟨b78, hb79, h⟩ := h
        rw [hb79]
        obtain ⟨n81, t80, h⟩ := h
        obtain ⟨i82, h⟩ := h
        refine z_iald hx hb hK hM t80 0 rfl i82 d_Y_read_288 ?_
        refine W.widen (k := 0) (n := 0) (by decide) (by decide) ?_
        rw [← hQ]
        exact z_iret hx hb hr hlk hK hM hS h d_Y_read_289
      · replace h := h.2 c76
        refine lv_aload_n hx hb d_Y_read_277 rfl (hl.at 0 rfl) ?_
        refine lv_iconst (v := (0 : Int32)) hx hb d_Y_read_278 (by decide) ?_
        refine lv_iload_n hx hb d_Y_read_279 rfl (hl.at 1 rfl) ?_
        obtain ⟨t83, h⟩ := h
        refine z_ctv (mc := 0) (ms := 0) (va_runV (As := [.int (0 : Int32), .int x1]) (rest := []) ⟨hx, hb, hml, hown, hW⟩ (c_Y_tell l ca D M75 H.size a0 (0 : Int32) x1 _) (cw_Y_tell hW k_786 ⟨by decide, by decide⟩) (zPre_V hK hN hM h t83 (by decide) rfl) rfl rfl hl.1.1 rfl (lv_room (Nat.le_of_ble_eq_true rfl)) d_Y_read_280 ⟨by decide, by decide⟩) hM hS hA (fun M84 H locs h hM hS => ?_)
        refine lv_aload_n hx hb d_Y_read_283 rfl (hl.at 0 rfl) ?_
        obtain ⟨t85, h⟩ := h
        refine z_getR hx hb hW in_9 hown hK hM t85 (by decide) rfl 9 (by decide) rfl (hW _ k_594) rfl d_Y_read_284 ?_
        refine lv_iload_n hx hb d_Y_read_287 rfl (hl.at 1 rfl) ?_
        obtain ⟨b86, hb87, h⟩ := h
        rw [hb87]
        obtain ⟨n89, t88, h⟩ := h
        obtain ⟨i90, h⟩ := h
        refine z_iald hx hb hK hM t88 0 rfl i90 d_Y_read_288 ?_
        refine W.widen (k := 0) (n := 0) (by decide) (by decide) ?_
        rw [← hQ]
        exact z_iret hx hb hr hlk hK hM hS h d_Y_read_289
  have b_29 : ∀ (M : zM) (H : Heap) (locs : List Loc) (ls : Array Slot) (a0 : Nat) (x1 : Int32) (x2 : Int32) (x3 : Int32) (u0 : Int32), zL ls 5 [(0, .ref a0), (1, .int x1), (2, .int x2), (3, .int x3)] → zW ca D zcl A M H → va_S A s.heap H locs → w_Y_read_29 post M a0 x1 x2 x3 u0 → W p l e rm_Y_read s m args below meth c H locs 0 0 Q (F0 m 29 ls [.int u0]) := by
    intro M H locs ls a0 x1 x2 x3 u0 hl hM hS h
    unfold w_Y_read_29 at h
    refine z_istore hx hb d_Y_read_29 hl (by decide) rfl (fun ls hl => ?_)
    have hl : zL ls 5 [(4, .int u0), (0, .ref a0), (1, .int x1), (2, .int x2), (3, .int x3)] := hl
    refine lv_aload_n hx hb d_Y_read_31 rfl (hl.at 1 rfl) ?_
    obtain ⟨t18, h⟩ := h
    refine z_getR hx hb hW in_9 hown hK hM t18 (by decide) rfl 15 (by decide) rfl (hW _ k_600) rfl d_Y_read_32 ?_
    refine lv_iload_n hx hb d_Y_read_35 rfl (hl.at 2 rfl) ?_
    refine lv_iconst (v := (0 : Int32)) hx hb d_Y_read_36 (by decide) ?_
    obtain ⟨b19, hb20, h⟩ := h
    rw [hb20]
    obtain ⟨n22, t21, h⟩ := h
    obtain ⟨i23, h⟩ := h
    refine z_iast hx hb hK hM hS t21 0 rfl i23 d_Y_read_37 (fun H locs hM hS => ?_)
    obtain ⟨M24, e25⟩ : ∃ z, z = zwI M b19 x1.toNatClampNeg (0 : Int32) := ⟨_, rfl⟩
    replace h := h M24 e25
    rw [← e25] at hM
    refine lv_iload_n hx hb d_Y_read_38 rfl (hl.at 4 rfl) ?_
    refine lv_sipush (v := (304 : Int32)) hx hb d_Y_read_39 (by decide) ?_
    refine lv_icmp_ne (tgt := 115) hx hb d_Y_read_42 rfl (fun c26 => ?_) (fun c26 => ?_)
    · replace h := h.2 c26
      refine lv_iload_n hx hb d_Y_read_115 rfl (hl.at 4 rfl) ?_
      refine lv_sipush (v := (200 : Int32)) hx hb d_Y_read_116 (by decide) ?_
      refine lv_icmp_ne (tgt := 213) hx hb d_Y_read_119 rfl (fun c27 => ?_) (fun c27 => ?_)
      · replace h := h.2 c27
        refine lv_iload_n hx hb d_Y_read_213 rfl (hl.at 4 rfl) ?_
        refine lv_sipush (v := (412 : Int32)) hx hb d_Y_read_214 (by decide) ?_
        refine lv_icmp_ne (tgt := 230) hx hb d_Y_read_217 rfl (fun c28 => ?_) (fun c28 => ?_)
        · replace h := h.2 c28
          refine lv_aload_n hx hb d_Y_read_230 rfl (hl.at 1 rfl) ?_
          have t29 : zT M24 a0 = some (9, 40) := by rw [e25]; exact t18
          refine z_getR hx hb hW in_9 hown hK hM t29 (by decide) rfl 9 (by decide) rfl (hW _ k_594) rfl d_Y_read_231 ?_
          refine lv_iload_n hx hb d_Y_read_234 rfl (hl.at 2 rfl) ?_
          refine lv_iload_n hx hb d_Y_read_235 rfl (hl.at 4 rfl) ?_
          refine lv_sipush (v := (404 : Int32)) hx hb d_Y_read_236 (by decide) ?_
          refine lv_icmp_ne (tgt := 246) hx hb d_Y_read_239 rfl (fun c30 => ?_) (fun c30 => ?_)
          · replace h := h.2 c30
            refine lv_iconst (v := (4 : Int32)) hx hb d_Y_read_246 (by decide) ?_
            exact b_247 M24 H locs ls a0 x1 x2 x3 u0 (zR M24 a0 9) x1 (4 : Int32) (hl.sub [1, 2, 3, 4, 0] rfl) hM hS h
          · replace h := h.1 c30
            refine lv_iconst (v := (3 : Int32)) hx hb d_Y_read_242 (by decide) ?_
            refine lv_goto (tgt := 247) hx hb d_Y_read_243 rfl ?_
            exact b_247 M24 H locs ls a0 x1 x2 x3 u0 (zR M24 a0 9) x1 (3 : Int32) (hl.sub [1, 2, 3, 4, 0] rfl) hM hS h
        · replace h := h.1 c28
          refine lv_aload_n hx hb d_Y_read_220 rfl (hl.at 1 rfl) ?_
          have t91 : zT M24 a0 = some (9, 40) := by rw [e25]; exact t18
          refine z_getR hx hb hW in_9 hown hK hM t91 (by decide) rfl 9 (by decide) rfl (hW _ k_594) rfl d_Y_read_221 ?_
          refine lv_iload_n hx hb d_Y_read_224 rfl (hl.at 2 rfl) ?_
          refine lv_iconst (v := (5 : Int32)) hx hb d_Y_read_225 (by decide) ?_
          obtain ⟨b92, hb93, h⟩ := h
          rw [hb93]
          obtain ⟨n95, t94, h⟩ := h
          obtain ⟨i96, h⟩ := h
          refine z_iast hx hb hK hM hS t94 0 rfl i96 d_Y_read_226 (fun H locs hM hS => ?_)
          obtain ⟨M97, e98⟩ : ∃ z, z = zwI M24 b92 x1.toNatClampNeg (5 : Int32) := ⟨_, rfl⟩
          replace h := h M97 e98
          rw [← e98] at hM
          refine lv_goto (tgt := 269) hx hb d_Y_read_227 rfl ?_
          refine lv_aload_n hx hb d_Y_read_269 rfl (hl.at 1 rfl) ?_
          refine lv_iload_n hx hb d_Y_read_270 rfl (hl.at 2 rfl) ?_
          have t99 : zT M97 a0 = some (9, 40) := by rw [e98]; exact t91
          refine z_cti (mc := 0) (ms := 0) (va_runV (As := [.int x1]) (rest := []) ⟨hx, hb, hml, hown, hW⟩ (c_Y_need l ca D M97 H.size a0 x1 _) (cw_Y_need hW k_738 ⟨by decide, by decide⟩) (zPre_V hK hN hM h t99 (by decide) rfl) rfl rfl hl.1.1 rfl (lv_room (Nat.le_of_ble_eq_true rfl)) d_Y_read_271 ⟨by decide, by decide⟩) hM hS hA (fun r100 M101 H locs h hM hS => ?_)
          refine lv_if_le (tgt := 283) hx hb d_Y_read_274 rfl (fun c102 => ?_) (fun c102 => ?_)
          · replace h := h.1 c102
            refine lv_aload_n hx hb d_Y_read_283 rfl (hl.at 1 rfl) ?_
            obtain ⟨t103, h⟩ := h
            refine z_getR hx hb hW in_9 hown hK hM t103 (by decide) rfl 9 (by decide) rfl (hW _ k_594) rfl d_Y_read_284 ?_
            refine lv_iload_n hx hb d_Y_read_287 rfl (hl.at 2 rfl) ?_
            obtain ⟨b104, hb105, h⟩ := h
            rw [hb105]
            obtain ⟨n107, t106, h⟩ := h
            obtain ⟨i108, h⟩ := h
            refine z_iald hx hb hK hM t106 0 rfl i108 d_Y_read_288 ?_
            refine W.widen (k := 0) (n := 0) (by decide) (by decide) ?_
            rw [← hQ]
            exact z_iret hx hb hr hlk hK hM hS h d_Y_read_289
          · replace h := h.2 c102
            refine lv_aload_n hx hb d_Y_read_277 rfl (hl.at 1 rfl) ?_
            refine lv_iconst (v := (0 : Int32)) hx hb d_Y_read_278 (by decide) ?_
            refine lv_iload_n hx hb d_Y_read_279 rfl (hl.at 2 rfl) ?_
            obtain ⟨t109, h⟩ := h
            refine z_ctv (mc := 0) (ms := 0) (va_runV (As := [.int (0 : Int32), .int x1]) (rest := []) ⟨hx, hb, hml, hown, hW⟩ (c_Y_tell l ca D M101 H.size a0 (0 : Int32) x1 _) (cw_Y_tell hW k_786 ⟨by decide, by decide⟩) (zPre_V hK hN hM h t109 (by decide) rfl) rfl rfl hl.1.1 rfl (lv_room (Nat.le_of_ble_eq_true rfl)) d_Y_read_280 ⟨by decide, by decide⟩) hM hS hA (fun M110 H locs h hM hS => ?_)
            refine lv_aload_n hx hb d_Y_read_283 rfl (hl.at 1 rfl) ?_
            obtain ⟨t111, h⟩ := h
            refine z_getR hx hb hW in_9 hown hK hM t111 (by decide) rfl 9 (by decide) rfl (hW _ k_594) rfl d_Y_read_284 ?_
            refine lv_iload_n hx hb d_Y_read_287 rfl (hl.at 2 rfl) ?_
            obtain ⟨b112, hb113, h⟩ := h
            rw [hb113]
            obtain ⟨n115, t114, h⟩ := h
            obtain ⟨i116, h⟩ := h
            refine z_iald hx hb hK hM t114 0 rfl i116 d_Y_read_288 ?_
            refine W.widen (k := 0) (n := 0) (by decide) (by decide) ?_
            rw [← hQ]
            exact z_iret hx hb hr hlk hK hM hS h d_Y_read_289
      · replace h := h.1 c27
        refine lv_aload_n hx hb d_Y_read_122 rfl (hl.at 1 rfl) ?_
        have t117 : zT M24 a0 = some (9, 40) := by rw [e25]; exact t18
        refine z_getR hx hb hW in_9 hown hK hM t117 (by decide) rfl 7 (by decide) rfl (hW _ k_592) rfl d_Y_read_123 ?_
        refine lv_iload_n hx hb d_Y_read_126 rfl (hl.at 2 rfl) ?_
        obtain ⟨b118, hb119, h⟩ := h
        rw [hb119]
        obtain ⟨n121, t120, h⟩ := h
        obtain ⟨i122, h⟩ := h
        refine z_zald hx hb hK hM t120 1 rfl i122 d_Y_read_127 ?_
        refine lv_if_ne (tgt := 213) hx hb d_Y_read_128 rfl (fun c123 => ?_) (fun c123 => ?_)
        · replace h := h.2 c123
          refine lv_iload_n hx hb d_Y_read_213 rfl (hl.at 4 rfl) ?_
          refine lv_sipush (v := (412 : Int32)) hx hb d_Y_read_214 (by decide) ?_
          refine lv_icmp_ne (tgt := 230) hx hb d_Y_read_217 rfl (fun c124 => ?_) (fun c124 => ?_)
          · replace h := h.2 c124
            refine lv_aload_n hx hb d_Y_read_230 rfl (hl.at 1 rfl) ?_
            refine z_getR hx hb hW in_9 hown hK hM t117 (by decide) rfl 9 (by decide) rfl (hW _ k_594) rfl d_Y_read_231 ?_
            refine lv_iload_n hx hb d_Y_read_234 rfl (hl.at 2 rfl) ?_
            refine lv_iload_n hx hb d_Y_read_235 rfl (hl.at 4 rfl) ?_
            refine lv_sipush (v := (404 : Int32)) hx hb d_Y_read_236 (by decide) ?_
            refine lv_icmp_ne (tgt := 246) hx hb d_Y_read_239 rfl (fun c125 => ?_) (fun c125 => ?_)
            · replace h := h.2 c125
              refine lv_iconst (v := (4 : Int32)) hx hb d_Y_read_246 (by decide) ?_
              exact b_247 M24 H locs ls a0 x1 x2 x3 u0 (zR M24 a0 9) x1 (4 : Int32) (hl.sub [1, 2, 3, 4, 0] rfl) hM hS h
            · replace h := h.1 c125
              refine lv_iconst (v := (3 : Int32)) hx hb d_Y_read_242 (by decide) ?_
              refine lv_goto (tgt := 247) hx hb d_Y_read_243 rfl ?_
              exact b_247 M24 H locs ls a0 x1 x2 x3 u0 (zR M24 a0 9) x1 (3 : Int32) (hl.sub [1, 2, 3, 4, 0] rfl) hM hS h
          · replace h := h.1 c124
            refine lv_aload_n hx hb d_Y_read_220 rfl (hl.at 1 rfl) ?_
            refine z_getR hx hb hW in_9 hown hK hM t117 (by decide) rfl 9 (by decide) rfl (hW _ k_594) rfl d_Y_read_221 ?_
            refine lv_iload_n hx hb d_Y_read_224 rfl (hl.at 2 rfl) ?_
            refine lv_iconst (v := (5 : Int32)) hx hb d_Y_read_225 (by decide) ?_
            obtain ⟨b126, hb127, h⟩ := h
            rw [hb127]
            obtain ⟨n129, t128, h⟩ := h
            obtain ⟨i130, h⟩ := h
            refine z_iast hx hb hK hM hS t128 0 rfl i130 d_Y_read_226 (fun H locs hM hS => ?_)
            obtain ⟨M131, e132⟩ : ∃ z, z = zwI M24 b126 x1.toNatClampNeg (5 : Int32) := ⟨_, rfl⟩
            replace h := h M131 e132
            rw [← e132] at hM
            refine lv_goto (tgt := 269) hx hb d_Y_read_227 rfl ?_
            refine lv_aload_n hx hb d_Y_read_269 rfl (hl.at 1 rfl) ?_
            refine lv_iload_n hx hb d_Y_read_270 rfl (hl.at 2 rfl) ?_
            have t133 : zT M131 a0 = some (9, 40) := by rw [e132]; exact t117
            refine z_cti (mc := 0) (ms := 0) (va_runV (As := [.int x1]) (rest := []) ⟨hx, hb, hml, hown, hW⟩ (c_Y_need l ca D M131 H.size a0 x1 _) (cw_Y_need hW k_738 ⟨by decide, by decide⟩) (zPre_V hK hN hM h t133 (by decide) rfl) rfl rfl hl.1.1 rfl (lv_room (Nat.le_of_ble_eq_true rfl)) d_Y_read_271 ⟨by decide, by decide⟩) hM hS hA (fun r134 M135 H locs h hM hS => ?_)
            refine lv_if_le (tgt := 283) hx hb d_Y_read_274 rfl (fun c136 => ?_) (fun c136 => ?_)
            · replace h := h.1 c136
              refine lv_aload_n hx hb d_Y_read_283 rfl (hl.at 1 rfl) ?_
              obtain ⟨t137, h⟩ := h
              refine z_getR hx hb hW in_9 hown hK hM t137 (by decide) rfl 9 (by decide) rfl (hW _ k_594) rfl d_Y_read_284 ?_
              refine lv_iload_n hx hb d_Y_read_287 rfl (hl.at 2 rfl) ?_
              obtain ⟨b138, hb139, h⟩ := h
              rw [hb139]
              obtain ⟨n141, t140, h⟩ := h
              obtain ⟨i142, h⟩ := h
              refine z_iald hx hb hK hM t140 0 rfl i142 d_Y_read_288 ?_
              refine W.widen (k := 0) (n := 0) (by decide) (by decide) ?_
              rw [← hQ]
              exact z_iret hx hb hr hlk hK hM hS h d_Y_read_289
            · replace h := h.2 c136
              refine lv_aload_n hx hb d_Y_read_277 rfl (hl.at 1 rfl) ?_
              refine lv_iconst (v := (0 : Int32)) hx hb d_Y_read_278 (by decide) ?_
              refine lv_iload_n hx hb d_Y_read_279 rfl (hl.at 2 rfl) ?_
              obtain ⟨t143, h⟩ := h
              refine z_ctv (mc := 0) (ms := 0) (va_runV (As := [.int (0 : Int32), .int x1]) (rest := []) ⟨hx, hb, hml, hown, hW⟩ (c_Y_tell l ca D M135 H.size a0 (0 : Int32) x1 _) (cw_Y_tell hW k_786 ⟨by decide, by decide⟩) (zPre_V hK hN hM h t143 (by decide) rfl) rfl rfl hl.1.1 rfl (lv_room (Nat.le_of_ble_eq_true rfl)) d_Y_read_280 ⟨by decide, by decide⟩) hM hS hA (fun M144 H locs h hM hS => ?_)
              refine lv_aload_n hx hb d_Y_read_283 rfl (hl.at 1 rfl) ?_
              obtain ⟨t145, h⟩ := h
              refine z_getR hx hb hW in_9 hown hK hM t145 (by decide) rfl 9 (by decide) rfl (hW _ k_594) rfl d_Y_read_284 ?_
              refine lv_iload_n hx hb d_Y_read_287 rfl (hl.at 2 rfl) ?_
              obtain ⟨b146, hb147, h⟩ := h
              rw [hb147]
              obtain ⟨n149, t148, h⟩ := h
              obtain ⟨i150, h⟩ := h
              refine z_iald hx hb hK hM t148 0 rfl i150 d_Y_read_288 ?_
              refine W.widen (k := 0) (n := 0) (by decide) (by decide) ?_
              rw [← hQ]
              exact z_iret hx hb hr hlk hK hM hS h d_Y_read_289
        · replace h := h.1 c123
          refine lv_aload_n hx hb d_Y_read_131 rfl (hl.at 1 rfl) ?_
          refine z_getR hx hb hW in_9 hown hK hM t117 (by decide) rfl 9 (by decide) rfl (hW _ k_594) rfl d_Y_read_132 ?_
          refine lv_iload_n hx hb d_Y_read_135 rfl (hl.at 2 rfl) ?_
          refine lv_iconst (v := (1 : Int32)) hx hb d_Y_read_136 (by decide) ?_
          obtain ⟨b151, hb152, h⟩ := h
          rw [hb152]
          obtain ⟨n154, t153, h⟩ := h
          obtain ⟨i155, h⟩ := h
          refine z_iast hx hb hK hM hS t153 0 rfl i155 d_Y_read_137 (fun H locs hM hS => ?_)
          obtain ⟨M156, e157⟩ : ∃ z, z = zwI M24 b151 x1.toNatClampNeg (1 : Int32) := ⟨_, rfl⟩
          replace h := h M156 e157
          rw [← e157] at hM
          refine lv_aload_n hx hb d_Y_read_138 rfl (hl.at 1 rfl) ?_
          have t158 : zT M156 a0 = some (9, 40) := by rw [e157]; exact t117
          refine z_getR hx hb hW in_9 hown hK hM t158 (by decide) rfl 14 (by decide) rfl (hW _ k_599) rfl d_Y_read_139 ?_
          refine lv_iload_n hx hb d_Y_read_142 rfl (hl.at 2 rfl) ?_
          refine lv_aload_n hx hb d_Y_read_143 rfl (hl.at 1 rfl) ?_
          refine z_getR hx hb hW in_9 hown hK hM t158 (by decide) rfl 19 (by decide) rfl (hW _ k_604) rfl d_Y_read_144 ?_
          refine lv_iload_n hx hb d_Y_read_147 rfl (hl.at 2 rfl) ?_
          obtain ⟨b159, hb160, h⟩ := h
          rw [hb160]
          obtain ⟨n162, t161, h⟩ := h
          obtain ⟨i163, h⟩ := h
          refine z_iald hx hb hK hM t161 0 rfl i163 d_Y_read_148 ?_
          obtain ⟨b164, hb165, h⟩ := h
          rw [hb165]
          obtain ⟨n167, t166, h⟩ := h
          obtain ⟨i168, h⟩ := h
          refine z_iast hx hb hK hM hS t166 0 rfl i168 d_Y_read_149 (fun H locs hM hS => ?_)
          obtain ⟨M169, e170⟩ : ∃ z, z = zwI M156 b164 x1.toNatClampNeg (zI M156 b159 x1.toNatClampNeg) := ⟨_, rfl⟩
          replace h := h M169 e170
          rw [← e170] at hM
          refine lv_iload hx hb d_Y_read_150 (hl.at 0 rfl) ?_
          refine lv_if_eq (tgt := 269) hx hb d_Y_read_152 rfl (fun c171 => ?_) (fun c171 => ?_)
          · replace h := h.1 c171
            refine lv_aload_n hx hb d_Y_read_269 rfl (hl.at 1 rfl) ?_
            refine lv_iload_n hx hb d_Y_read_270 rfl (hl.at 2 rfl) ?_
            have t172 : zT M169 a0 = some (9, 40) := by rw [e170]; exact t158
            refine z_cti (mc := 0) (ms := 0) (va_runV (As := [.int x1]) (rest := []) ⟨hx, hb, hml, hown, hW⟩ (c_Y_need l ca D M169 H.size a0 x1 _) (cw_Y_need hW k_738 ⟨by decide, by decide⟩) (zPre_V hK hN hM h t172 (by decide) rfl) rfl rfl hl.1.1 rfl (lv_room (Nat.le_of_ble_eq_true rfl)) d_Y_read_271 ⟨by decide, by decide⟩) hM hS hA (fun r173 M174 H locs h hM hS => ?_)
            refine lv_if_le (tgt := 283) hx hb d_Y_read_274 rfl (fun c175 => ?_) (fun c175 => ?_)
            · replace h := h.1 c175
              refine lv_aload_n hx hb d_Y_read_283 rfl (hl.at 1 rfl) ?_
              obtain ⟨t176, h⟩ := h
              refine z_getR hx hb hW in_9 hown hK hM t176 (by decide) rfl 9 (by decide) rfl (hW _ k_594) rfl d_Y_read_284 ?_
              refine lv_iload_n hx hb d_Y_read_287 rfl (hl.at 2 rfl) ?_
              obtain ⟨b177, hb178, h⟩ := h
              rw [hb178]
              obtain ⟨n180, t179, h⟩ := h
              obtain ⟨i181, h⟩ := h
              refine z_iald hx hb hK hM t179 0 rfl i181 d_Y_read_288 ?_
              refine W.widen (k := 0) (n := 0) (by decide) (by decide) ?_
              rw [← hQ]
              exact z_iret hx hb hr hlk hK hM hS h d_Y_read_289
            · replace h := h.2 c175
              refine lv_aload_n hx hb d_Y_read_277 rfl (hl.at 1 rfl) ?_
              refine lv_iconst (v := (0 : Int32)) hx hb d_Y_read_278 (by decide) ?_
              refine lv_iload_n hx hb d_Y_read_279 rfl (hl.at 2 rfl) ?_
              obtain ⟨t182, h⟩ := h
              refine z_ctv (mc := 0) (ms := 0) (va_runV (As := [.int (0 : Int32), .int x1]) (rest := []) ⟨hx, hb, hml, hown, hW⟩ (c_Y_tell l ca D M174 H.size a0 (0 : Int32) x1 _) (cw_Y_tell hW k_786 ⟨by decide, by decide⟩) (zPre_V hK hN hM h t182 (by decide) rfl) rfl rfl hl.1.1 rfl (lv_room (Nat.le_of_ble_eq_true rfl)) d_Y_read_280 ⟨by decide, by decide⟩) hM hS hA (fun M183 H locs h hM hS => ?_)
              refine lv_aload_n hx hb d_Y_read_283 rfl (hl.at 1 rfl) ?_
              obtain ⟨t184, h⟩ := h
              refine z_getR hx hb hW in_9 hown hK hM t184 (by decide) rfl 9 (by decide) rfl (hW _ k_594) rfl d_Y_read_284 ?_
              refine lv_iload_n hx hb d_Y_read_287 rfl (hl.at 2 rfl) ?_
              obtain ⟨b185, hb186, h⟩ := h
              rw [hb186]
              obtain ⟨n188, t187, h⟩ := h
              obtain ⟨i189, h⟩ := h
              refine z_iald hx hb hK hM t187 0 rfl i189 d_Y_read_288 ?_
              refine W.widen (k := 0) (n := 0) (by decide) (by decide) ?_
              rw [← hQ]
              exact z_iret hx hb hr hlk hK hM hS h d_Y_read_289
          · replace h := h.2 c171
            refine lv_aload_n hx hb d_Y_read_155 rfl (hl.at 1 rfl) ?_
            have t190 : zT M169 a0 = some (9, 40) := by rw [e170]; exact t158
            refine z_getR hx hb hW in_9 hown hK hM t190 (by decide) rfl 22 (by decide) rfl (hW _ k_607) rfl d_Y_read_156 ?_
            refine lv_iload_n hx hb d_Y_read_159 rfl (hl.at 3 rfl) ?_
            refine lv_aload_n hx hb d_Y_read_160 rfl (hl.at 1 rfl) ?_
            refine z_getR hx hb hW in_9 hown hK hM t190 (by decide) rfl 17 (by decide) rfl (hW _ k_602) rfl d_Y_read_161 ?_
            refine lv_iload_n hx hb d_Y_read_164 rfl (hl.at 2 rfl) ?_
            obtain ⟨b191, hb192, h⟩ := h
            rw [hb192]
            obtain ⟨n194, t193, h⟩ := h
            obtain ⟨i195, h⟩ := h
            refine z_iald hx hb hK hM t193 0 rfl i195 d_Y_read_165 ?_
            obtain ⟨b196, hb197, h⟩ := h
            rw [hb197]
            obtain ⟨n199, t198, h⟩ := h
            obtain ⟨i200, h⟩ := h
            refine z_iast hx hb hK hM hS t198 0 rfl i200 d_Y_read_166 (fun H locs hM hS => ?_)
            obtain ⟨M201, e202⟩ : ∃ z, z = zwI M169 b196 x2.toNatClampNeg (zI M169 b191 x1.toNatClampNeg) := ⟨_, rfl⟩
            replace h := h M201 e202
            rw [← e202] at hM
            refine lv_aload_n hx hb d_Y_read_167 rfl (hl.at 1 rfl) ?_
            have t203 : zT M201 a0 = some (9, 40) := by rw [e202]; exact t190
            refine z_getR hx hb hW in_9 hown hK hM t203 (by decide) rfl 23 (by decide) rfl (hW _ k_608) rfl d_Y_read_168 ?_
            refine lv_iload_n hx hb d_Y_read_171 rfl (hl.at 3 rfl) ?_
            refine lv_aload_n hx hb d_Y_read_172 rfl (hl.at 1 rfl) ?_
            refine z_getR hx hb hW in_9 hown hK hM t203 (by decide) rfl 19 (by decide) rfl (hW _ k_604) rfl d_Y_read_173 ?_
            refine lv_iload_n hx hb d_Y_read_176 rfl (hl.at 2 rfl) ?_
            obtain ⟨b204, hb205, h⟩ := h
            rw [hb205]
            obtain ⟨n207, t206, h⟩ := h
            obtain ⟨i208, h⟩ := h
            refine z_iald hx hb hK hM t206 0 rfl i208 d_Y_read_177 ?_
            obtain ⟨b209, hb210, h⟩ := h
            rw [hb210]
            obtain ⟨n212, t211, h⟩ := h
            obtain ⟨i213, h⟩ := h
            refine z_iast hx hb hK hM hS t211 0 rfl i213 d_Y_read_178 (fun H locs hM hS => ?_)
            obtain ⟨M214, e215⟩ : ∃ z, z = zwI M201 b209 x2.toNatClampNeg (zI M201 b204 x1.toNatClampNeg) := ⟨_, rfl⟩
            replace h := h M214 e215
            rw [← e215] at hM
            refine lv_aload_n hx hb d_Y_read_179 rfl (hl.at 1 rfl) ?_
            have t216 : zT M214 a0 = some (9, 40) := by rw [e215]; exact t203
            refine z_getR hx hb hW in_9 hown hK hM t216 (by decide) rfl 24 (by decide) rfl (hW _ k_609) rfl d_Y_read_180 ?_
            refine lv_iload_n hx hb d_Y_read_183 rfl (hl.at 3 rfl) ?_
            refine lv_aload_n hx hb d_Y_read_184 rfl (hl.at 1 rfl) ?_
            refine z_getR hx hb hW in_9 hown hK hM t216 (by decide) rfl 18 (by decide) rfl (hW _ k_603) rfl d_Y_read_185 ?_
            refine lv_iload_n hx hb d_Y_read_188 rfl (hl.at 2 rfl) ?_
            obtain ⟨b217, hb218, h⟩ := h
            rw [hb218]
            obtain ⟨n220, t219, h⟩ := h
            obtain ⟨i221, h⟩ := h
            refine z_iald hx hb hK hM t219 0 rfl i221 d_Y_read_189 ?_
            obtain ⟨b222, hb223, h⟩ := h
            rw [hb223]
            obtain ⟨n225, t224, h⟩ := h
            obtain ⟨i226, h⟩ := h
            refine z_iast hx hb hK hM hS t224 0 rfl i226 d_Y_read_190 (fun H locs hM hS => ?_)
            obtain ⟨M227, e228⟩ : ∃ z, z = zwI M214 b222 x2.toNatClampNeg (zI M214 b217 x1.toNatClampNeg) := ⟨_, rfl⟩
            replace h := h M227 e228
            rw [← e228] at hM
            refine lv_aload_n hx hb d_Y_read_191 rfl (hl.at 1 rfl) ?_
            have t229 : zT M227 a0 = some (9, 40) := by rw [e228]; exact t216
            refine z_getR hx hb hW in_9 hown hK hM t229 (by decide) rfl 25 (by decide) rfl (hW _ k_610) rfl d_Y_read_192 ?_
            refine lv_iload_n hx hb d_Y_read_195 rfl (hl.at 3 rfl) ?_
            refine lv_aload_n hx hb d_Y_read_196 rfl (hl.at 1 rfl) ?_
            refine z_getR hx hb hW in_9 hown hK hM t229 (by decide) rfl 13 (by decide) rfl (hW _ k_598) rfl d_Y_read_197 ?_
            refine lv_iload_n hx hb d_Y_read_200 rfl (hl.at 2 rfl) ?_
            obtain ⟨b230, hb231, h⟩ := h
            rw [hb231]
            obtain ⟨n233, t232, h⟩ := h
            obtain ⟨i234, h⟩ := h
            refine z_iald hx hb hK hM t232 0 rfl i234 d_Y_read_201 ?_
            obtain ⟨b235, hb236, h⟩ := h
            rw [hb236]
            obtain ⟨n238, t237, h⟩ := h
            obtain ⟨i239, h⟩ := h
            refine z_iast hx hb hK hM hS t237 0 rfl i239 d_Y_read_202 (fun H locs hM hS => ?_)
            obtain ⟨M240, e241⟩ : ∃ z, z = zwI M227 b235 x2.toNatClampNeg (zI M227 b230 x1.toNatClampNeg) := ⟨_, rfl⟩
            replace h := h M240 e241
            rw [← e241] at hM
            refine lv_aload_n hx hb d_Y_read_203 rfl (hl.at 1 rfl) ?_
            have t242 : zT M240 a0 = some (9, 40) := by rw [e241]; exact t229
            refine z_getR hx hb hW in_9 hown hK hM t242 (by decide) rfl 21 (by decide) rfl (hW _ k_606) rfl d_Y_read_204 ?_
            refine lv_iload_n hx hb d_Y_read_207 rfl (hl.at 3 rfl) ?_
            refine lv_iload_n hx hb d_Y_read_208 rfl (hl.at 2 rfl) ?_
            obtain ⟨b243, hb244, h⟩ := h
            rw [hb244]
            obtain ⟨n246, t245, h⟩ := h
            obtain ⟨i247, h⟩ := h
            refine z_iast hx hb hK hM hS t245 0 rfl i247 d_Y_read_209 (fun H locs hM hS => ?_)
            obtain ⟨M248, e249⟩ : ∃ z, z = zwI M240 b243 x2.toNatClampNeg x1 := ⟨_, rfl⟩
            replace h := h M248 e249
            rw [← e249] at hM
            refine lv_goto (tgt := 269) hx hb d_Y_read_210 rfl ?_
            refine lv_aload_n hx hb d_Y_read_269 rfl (hl.at 1 rfl) ?_
            refine lv_iload_n hx hb d_Y_read_270 rfl (hl.at 2 rfl) ?_
            have t250 : zT M248 a0 = some (9, 40) := by rw [e249]; exact t242
            refine z_cti (mc := 0) (ms := 0) (va_runV (As := [.int x1]) (rest := []) ⟨hx, hb, hml, hown, hW⟩ (c_Y_need l ca D M248 H.size a0 x1 _) (cw_Y_need hW k_738 ⟨by decide, by decide⟩) (zPre_V hK hN hM h t250 (by decide) rfl) rfl rfl hl.1.1 rfl (lv_room (Nat.le_of_ble_eq_true rfl)) d_Y_read_271 ⟨by decide, by decide⟩) hM hS hA (fun r251 M252 H locs h hM hS => ?_)
            refine lv_if_le (tgt := 283) hx hb d_Y_read_274 rfl (fun c253 => ?_) (fun c253 => ?_)
            · replace h := h.1 c253
              refine lv_aload_n hx hb d_Y_read_283 rfl (hl.at 1 rfl) ?_
              obtain ⟨t254, h⟩ := h
              refine z_getR hx hb hW in_9 hown hK hM t254 (by decide) rfl 9 (by decide) rfl (hW _ k_594) rfl d_Y_read_284 ?_
              refine lv_iload_n hx hb d_Y_read_287 rfl (hl.at 2 rfl) ?_
              obtain ⟨b255, hb256, h⟩ := h
              rw [hb256]
              obtain ⟨n258, t257, h⟩ := h
              obtain ⟨i259, h⟩ := h
              refine z_iald hx hb hK hM t257 0 rfl i259 d_Y_read_288 ?_
              refine W.widen (k := 0) (n := 0) (by decide) (by decide) ?_
              rw [← hQ]
              exact z_iret hx hb hr hlk hK hM hS h d_Y_read_289
            · replace h := h.2 c253
              refine lv_aload_n hx hb d_Y_read_277 rfl (hl.at 1 rfl) ?_
              refine lv_iconst (v := (0 : Int32)) hx hb d_Y_read_278 (by decide) ?_
              refine lv_iload_n hx hb d_Y_read_279 rfl (hl.at 2 rfl) ?_
              obtain ⟨t260, h⟩ := h
              refine z_ctv (mc := 0) (ms := 0) (va_runV (As := [.int (0 : Int32), .int x1]) (rest := []) ⟨hx, hb, hml, hown, hW⟩ (c_Y_tell l ca D M252 H.size a0 (0 : Int32) x1 _) (cw_Y_tell hW k_786 ⟨by decide, by decide⟩) (zPre_V hK hN hM h t260 (by decide) rfl) rfl rfl hl.1.1 rfl (lv_room (Nat.le_of_ble_eq_true rfl)) d_Y_read_280 ⟨by decide, by decide⟩) hM hS hA (fun M261 H locs h hM hS => ?_)
              refine lv_aload_n hx hb d_Y_read_283 rfl (hl.at 1 rfl) ?_
              obtain ⟨t262, h⟩ := h
              refine z_getR hx hb hW in_9 hown hK hM t262 (by decide) rfl 9 (by decide) rfl (hW _ k_594) rfl d_Y_read_284 ?_
              refine lv_iload_n hx hb d_Y_read_287 rfl (hl.at 2 rfl) ?_
              obtain ⟨b263, hb264, h⟩ := h
              rw [hb264]
              obtain ⟨n266, t265, h⟩ := h
              obtain ⟨i267, h⟩ := h
              refine z_iald hx hb hK hM t265 0 rfl i267 d_Y_read_288 ?_
              refine W.widen (k := 0) (n := 0) (by decide) (by decide) ?_
              rw [← hQ]
              exact z_iret hx hb hr hlk hK hM hS h d_Y_read_289
    · replace h := h.1 c26
      refine lv_aload_n hx hb d_Y_read_45 rfl (hl.at 1 rfl) ?_
      have t268 : zT M24 a0 = some (9, 40) := by rw [e25]; exact t18
      refine z_getR hx hb hW in_9 hown hK hM t268 (by decide) rfl 9 (by decide) rfl (hW _ k_594) rfl d_Y_read_46 ?_
      refine lv_iload_n hx hb d_Y_read_49 rfl (hl.at 2 rfl) ?_
      refine lv_iconst (v := (2 : Int32)) hx hb d_Y_read_50 (by decide) ?_
      obtain ⟨b269, hb270, h⟩ := h
      rw [hb270]
      obtain ⟨n272, t271, h⟩ := h
      obtain ⟨i273, h⟩ := h
      refine z_iast hx hb hK hM hS t271 0 rfl i273 d_Y_read_51 (fun H locs hM hS => ?_)
      obtain ⟨M274, e275⟩ : ∃ z, z = zwI M24 b269 x1.toNatClampNeg (2 : Int32) := ⟨_, rfl⟩
      replace h := h M274 e275
      rw [← e275] at hM
      refine lv_aload_n hx hb d_Y_read_52 rfl (hl.at 1 rfl) ?_
      have t276 : zT M274 a0 = some (9, 40) := by rw [e275]; exact t268
      refine z_getR hx hb hW in_9 hown hK hM t276 (by decide) rfl 21 (by decide) rfl (hW _ k_606) rfl d_Y_read_53 ?_
      refine lv_iload_n hx hb d_Y_read_56 rfl (hl.at 3 rfl) ?_
      obtain ⟨b277, hb278, h⟩ := h
      rw [hb278]
      obtain ⟨n280, t279, h⟩ := h
      obtain ⟨i281, h⟩ := h
      refine z_iald hx hb hK hM t279 0 rfl i281 d_Y_read_57 ?_
      refine lv_if_lt (tgt := 269) hx hb d_Y_read_58 rfl (fun c282 => ?_) (fun c282 => ?_)
      · replace h := h.1 c282
        refine lv_aload_n hx hb d_Y_read_269 rfl (hl.at 1 rfl) ?_
        refine lv_iload_n hx hb d_Y_read_270 rfl (hl.at 2 rfl) ?_
        refine z_cti (mc := 0) (ms := 0) (va_runV (As := [.int x1]) (rest := []) ⟨hx, hb, hml, hown, hW⟩ (c_Y_need l ca D M274 H.size a0 x1 _) (cw_Y_need hW k_738 ⟨by decide, by decide⟩) (zPre_V hK hN hM h t276 (by decide) rfl) rfl rfl hl.1.1 rfl (lv_room (Nat.le_of_ble_eq_true rfl)) d_Y_read_271 ⟨by decide, by decide⟩) hM hS hA (fun r283 M284 H locs h hM hS => ?_)
        refine lv_if_le (tgt := 283) hx hb d_Y_read_274 rfl (fun c285 => ?_) (fun c285 => ?_)
        · replace h := h.1 c285
          refine lv_aload_n hx hb d_Y_read_283 rfl (hl.at 1 rfl) ?_
          obtain ⟨t286, h⟩ := h
          refine z_getR hx hb hW in_9 hown hK hM t286 (by decide) rfl 9 (by decide) rfl (hW _ k_594) rfl d_Y_read_284 ?_
          refine lv_iload_n hx hb d_Y_read_287 rfl (hl.at 2 rfl) ?_
          obtain ⟨b287, hb288, h⟩ := h
          rw [hb288]
          obtain ⟨n290, t289, h⟩ := h
          obtain ⟨i291, h⟩ := h
          refine z_iald hx hb hK hM t289 0 rfl i291 d_Y_read_288 ?_
          refine W.widen (k := 0) (n := 0) (by decide) (by decide) ?_
          rw [← hQ]
          exact z_iret hx hb hr hlk hK hM hS h d_Y_read_289
        · replace h := h.2 c285
          refine lv_aload_n hx hb d_Y_read_277 rfl (hl.at 1 rfl) ?_
          refine lv_iconst (v := (0 : Int32)) hx hb d_Y_read_278 (by decide) ?_
          refine lv_iload_n hx hb d_Y_read_279 rfl (hl.at 2 rfl) ?_
          obtain ⟨t292, h⟩ := h
          refine z_ctv (mc := 0) (ms := 0) (va_runV (As := [.int (0 : Int32), .int x1]) (rest := []) ⟨hx, hb, hml, hown, hW⟩ (c_Y_tell l ca D M284 H.size a0 (0 : Int32) x1 _) (cw_Y_tell hW k_786 ⟨by decide, by decide⟩) (zPre_V hK hN hM h t292 (by decide) rfl) rfl rfl hl.1.1 rfl (lv_room (Nat.le_of_ble_eq_true rfl)) d_Y_read_280 ⟨by decide, by decide⟩) hM hS hA (fun M293 H locs h hM hS => ?_)
          refine lv_aload_n hx hb d_Y_read_283 rfl (hl.at 1 rfl) ?_
          obtain ⟨t294, h⟩ := h
          refine z_getR hx hb hW in_9 hown hK hM t294 (by decide) rfl 9 (by decide) rfl (hW _ k_594) rfl d_Y_read_284 ?_
          refine lv_iload_n hx hb d_Y_read_287 rfl (hl.at 2 rfl) ?_
          obtain ⟨b295, hb296, h⟩ := h
          rw [hb296]
          obtain ⟨n298, t297, h⟩ := h
          obtain ⟨i299, h⟩ := h
          refine z_iald hx hb hK hM t297 0 rfl i299 d_Y_read_288 ?_
          refine W.widen (k := 0) (n := 0) (by decide) (by decide) ?_
          rw [← hQ]
          exact z_iret hx hb hr hlk hK hM hS h d_Y_read_289
      · replace h := h.2 c282
        refine lv_aload_n hx hb d_Y_read_61 rfl (hl.at 1 rfl) ?_
        refine z_getR hx hb hW in_9 hown hK hM t276 (by decide) rfl 22 (by decide) rfl (hW _ k_607) rfl d_Y_read_62 ?_
        refine lv_iload_n hx hb d_Y_read_65 rfl (hl.at 3 rfl) ?_
        obtain ⟨b300, hb301, h⟩ := h
        rw [hb301]
        obtain ⟨n303, t302, h⟩ := h
        obtain ⟨i304, h⟩ := h
        refine z_iald hx hb hK hM t302 0 rfl i304 d_Y_read_66 ?_
        refine lv_aload_n hx hb d_Y_read_67 rfl (hl.at 1 rfl) ?_
        refine z_getR hx hb hW in_9 hown hK hM t276 (by decide) rfl 17 (by decide) rfl (hW _ k_602) rfl d_Y_read_68 ?_
        refine lv_iload_n hx hb d_Y_read_71 rfl (hl.at 2 rfl) ?_
        obtain ⟨b305, hb306, h⟩ := h
        rw [hb306]
        obtain ⟨n308, t307, h⟩ := h
        obtain ⟨i309, h⟩ := h
        refine z_iald hx hb hK hM t307 0 rfl i309 d_Y_read_72 ?_
        refine lv_icmp_ne (tgt := 269) hx hb d_Y_read_73 rfl (fun c310 => ?_) (fun c310 => ?_)
        · replace h := h.2 c310
          refine lv_aload_n hx hb d_Y_read_269 rfl (hl.at 1 rfl) ?_
          refine lv_iload_n hx hb d_Y_read_270 rfl (hl.at 2 rfl) ?_
          refine z_cti (mc := 0) (ms := 0) (va_runV (As := [.int x1]) (rest := []) ⟨hx, hb, hml, hown, hW⟩ (c_Y_need l ca D M274 H.size a0 x1 _) (cw_Y_need hW k_738 ⟨by decide, by decide⟩) (zPre_V hK hN hM h t276 (by decide) rfl) rfl rfl hl.1.1 rfl (lv_room (Nat.le_of_ble_eq_true rfl)) d_Y_read_271 ⟨by decide, by decide⟩) hM hS hA (fun r311 M312 H locs h hM hS => ?_)
          refine lv_if_le (tgt := 283) hx hb d_Y_read_274 rfl (fun c313 => ?_) (fun c313 => ?_)
          · replace h := h.1 c313
            refine lv_aload_n hx hb d_Y_read_283 rfl (hl.at 1 rfl) ?_
            obtain ⟨t314, h⟩ := h
            refine z_getR hx hb hW in_9 hown hK hM t314 (by decide) rfl 9 (by decide) rfl (hW _ k_594) rfl d_Y_read_284 ?_
            refine lv_iload_n hx hb d_Y_read_287 rfl (hl.at 2 rfl) ?_
            obtain ⟨b315, hb316, h⟩ := h
            rw [hb316]
            obtain ⟨n318, t317, h⟩ := h
            obtain ⟨i319, h⟩ := h
            refine z_iald hx hb hK hM t317 0 rfl i319 d_Y_read_288 ?_
            refine W.widen (k := 0) (n := 0) (by decide) (by decide) ?_
            rw [← hQ]
            exact z_iret hx hb hr hlk hK hM hS h d_Y_read_289
          · replace h := h.2 c313
            refine lv_aload_n hx hb d_Y_read_277 rfl (hl.at 1 rfl) ?_
            refine lv_iconst (v := (0 : Int32)) hx hb d_Y_read_278 (by decide) ?_
            refine lv_iload_n hx hb d_Y_read_279 rfl (hl.at 2 rfl) ?_
            obtain ⟨t320, h⟩ := h
            refine z_ctv (mc := 0) (ms := 0) (va_runV (As := [.int (0 : Int32), .int x1]) (rest := []) ⟨hx, hb, hml, hown, hW⟩ (c_Y_tell l ca D M312 H.size a0 (0 : Int32) x1 _) (cw_Y_tell hW k_786 ⟨by decide, by decide⟩) (zPre_V hK hN hM h t320 (by decide) rfl) rfl rfl hl.1.1 rfl (lv_room (Nat.le_of_ble_eq_true rfl)) d_Y_read_280 ⟨by decide, by decide⟩) hM hS hA (fun M321 H locs h hM hS => ?_)
            refine lv_aload_n hx hb d_Y_read_283 rfl (hl.at 1 rfl) ?_
            obtain ⟨t322, h⟩ := h
            refine z_getR hx hb hW in_9 hown hK hM t322 (by decide) rfl 9 (by decide) rfl (hW _ k_594) rfl d_Y_read_284 ?_
            refine lv_iload_n hx hb d_Y_read_287 rfl (hl.at 2 rfl) ?_
            obtain ⟨b323, hb324, h⟩ := h
            rw [hb324]
            obtain ⟨n326, t325, h⟩ := h
            obtain ⟨i327, h⟩ := h
            refine z_iald hx hb hK hM t325 0 rfl i327 d_Y_read_288 ?_
            refine W.widen (k := 0) (n := 0) (by decide) (by decide) ?_
            rw [← hQ]
            exact z_iret hx hb hr hlk hK hM hS h d_Y_read_289
        · replace h := h.1 c310
          refine lv_iload hx hb d_Y_read_76 (hl.at 0 rfl) ?_
          refine lv_if_eq (tgt := 269) hx hb d_Y_read_78 rfl (fun c328 => ?_) (fun c328 => ?_)
          · replace h := h.1 c328
            refine lv_aload_n hx hb d_Y_read_269 rfl (hl.at 1 rfl) ?_
            refine lv_iload_n hx hb d_Y_read_270 rfl (hl.at 2 rfl) ?_
            refine z_cti (mc := 0) (ms := 0) (va_runV (As := [.int x1]) (rest := []) ⟨hx, hb, hml, hown, hW⟩ (c_Y_need l ca D M274 H.size a0 x1 _) (cw_Y_need hW k_738 ⟨by decide, by decide⟩) (zPre_V hK hN hM h t276 (by decide) rfl) rfl rfl hl.1.1 rfl (lv_room (Nat.le_of_ble_eq_true rfl)) d_Y_read_271 ⟨by decide, by decide⟩) hM hS hA (fun r329 M330 H locs h hM hS => ?_)
            refine lv_if_le (tgt := 283) hx hb d_Y_read_274 rfl (fun c331 => ?_) (fun c331 => ?_)
            · replace h := h.1 c331
              refine lv_aload_n hx hb d_Y_read_283 rfl (hl.at 1 rfl) ?_
              obtain ⟨t332, h⟩ := h
              refine z_getR hx hb hW in_9 hown hK hM t332 (by decide) rfl 9 (by decide) rfl (hW _ k_594) rfl d_Y_read_284 ?_
              refine lv_iload_n hx hb d_Y_read_287 rfl (hl.at 2 rfl) ?_
              obtain ⟨b333, hb334, h⟩ := h
              rw [hb334]
              obtain ⟨n336, t335, h⟩ := h
              obtain ⟨i337, h⟩ := h
              refine z_iald hx hb hK hM t335 0 rfl i337 d_Y_read_288 ?_
              refine W.widen (k := 0) (n := 0) (by decide) (by decide) ?_
              rw [← hQ]
              exact z_iret hx hb hr hlk hK hM hS h d_Y_read_289
            · replace h := h.2 c331
              refine lv_aload_n hx hb d_Y_read_277 rfl (hl.at 1 rfl) ?_
              refine lv_iconst (v := (0 : Int32)) hx hb d_Y_read_278 (by decide) ?_
              refine lv_iload_n hx hb d_Y_read_279 rfl (hl.at 2 rfl) ?_
              obtain ⟨t338, h⟩ := h
              refine z_ctv (mc := 0) (ms := 0) (va_runV (As := [.int (0 : Int32), .int x1]) (rest := []) ⟨hx, hb, hml, hown, hW⟩ (c_Y_tell l ca D M330 H.size a0 (0 : Int32) x1 _) (cw_Y_tell hW k_786 ⟨by decide, by decide⟩) (zPre_V hK hN hM h t338 (by decide) rfl) rfl rfl hl.1.1 rfl (lv_room (Nat.le_of_ble_eq_true rfl)) d_Y_read_280 ⟨by decide, by decide⟩) hM hS hA (fun M339 H locs h hM hS => ?_)
              refine lv_aload_n hx hb d_Y_read_283 rfl (hl.at 1 rfl) ?_
              obtain ⟨t340, h⟩ := h
              refine z_getR hx hb hW in_9 hown hK hM t340 (by decide) rfl 9 (by decide) rfl (hW _ k_594) rfl d_Y_read_284 ?_
              refine lv_iload_n hx hb d_Y_read_287 rfl (hl.at 2 rfl) ?_
              obtain ⟨b341, hb342, h⟩ := h
              rw [hb342]
              obtain ⟨n344, t343, h⟩ := h
              obtain ⟨i345, h⟩ := h
              refine z_iald hx hb hK hM t343 0 rfl i345 d_Y_read_288 ?_
              refine W.widen (k := 0) (n := 0) (by decide) (by decide) ?_
              rw [← hQ]
              exact z_iret hx hb hr hlk hK hM hS h d_Y_read_289
          · replace h := h.2 c328
            refine lv_aload_n hx hb d_Y_read_81 rfl (hl.at 1 rfl) ?_
            refine z_getR hx hb hW in_9 hown hK hM t276 (by decide) rfl 24 (by decide) rfl (hW _ k_609) rfl d_Y_read_82 ?_
            refine lv_iload_n hx hb d_Y_read_85 rfl (hl.at 3 rfl) ?_
            refine lv_aload_n hx hb d_Y_read_86 rfl (hl.at 1 rfl) ?_
            refine z_getR hx hb hW in_9 hown hK hM t276 (by decide) rfl 18 (by decide) rfl (hW _ k_603) rfl d_Y_read_87 ?_
            refine lv_iload_n hx hb d_Y_read_90 rfl (hl.at 2 rfl) ?_
            obtain ⟨b346, hb347, h⟩ := h
            rw [hb347]
            obtain ⟨n349, t348, h⟩ := h
            obtain ⟨i350, h⟩ := h
            refine z_iald hx hb hK hM t348 0 rfl i350 d_Y_read_91 ?_
            obtain ⟨b351, hb352, h⟩ := h
            rw [hb352]
            obtain ⟨n354, t353, h⟩ := h
            obtain ⟨i355, h⟩ := h
            refine z_iast hx hb hK hM hS t353 0 rfl i355 d_Y_read_92 (fun H locs hM hS => ?_)
            obtain ⟨M356, e357⟩ : ∃ z, z = zwI M274 b351 x2.toNatClampNeg (zI M274 b346 x1.toNatClampNeg) := ⟨_, rfl⟩
            replace h := h M356 e357
            rw [← e357] at hM
            refine lv_aload_n hx hb d_Y_read_93 rfl (hl.at 1 rfl) ?_
            have t358 : zT M356 a0 = some (9, 40) := by rw [e357]; exact t276
            refine z_getR hx hb hW in_9 hown hK hM t358 (by decide) rfl 25 (by decide) rfl (hW _ k_610) rfl d_Y_read_94 ?_
            refine lv_iload_n hx hb d_Y_read_97 rfl (hl.at 3 rfl) ?_
            refine lv_aload_n hx hb d_Y_read_98 rfl (hl.at 1 rfl) ?_
            refine z_getR hx hb hW in_9 hown hK hM t358 (by decide) rfl 13 (by decide) rfl (hW _ k_598) rfl d_Y_read_99 ?_
            refine lv_iload_n hx hb d_Y_read_102 rfl (hl.at 2 rfl) ?_
            obtain ⟨b359, hb360, h⟩ := h
            rw [hb360]
            obtain ⟨n362, t361, h⟩ := h
            obtain ⟨i363, h⟩ := h
            refine z_iald hx hb hK hM t361 0 rfl i363 d_Y_read_103 ?_
            obtain ⟨b364, hb365, h⟩ := h
            rw [hb365]
            obtain ⟨n367, t366, h⟩ := h
            obtain ⟨i368, h⟩ := h
            refine z_iast hx hb hK hM hS t366 0 rfl i368 d_Y_read_104 (fun H locs hM hS => ?_)
            obtain ⟨M369, e370⟩ : ∃ z, z = zwI M356 b364 x2.toNatClampNeg (zI M356 b359 x1.toNatClampNeg) := ⟨_, rfl⟩
            replace h := h M369 e370
            rw [← e370] at hM
            refine lv_aload_n hx hb d_Y_read_105 rfl (hl.at 1 rfl) ?_
            have t371 : zT M369 a0 = some (9, 40) := by rw [e370]; exact t358
            refine z_getR hx hb hW in_9 hown hK hM t371 (by decide) rfl 21 (by decide) rfl (hW _ k_606) rfl d_Y_read_106 ?_
            refine lv_iload_n hx hb d_Y_read_109 rfl (hl.at 3 rfl) ?_
            refine lv_iload_n hx hb d_Y_read_110 rfl (hl.at 2 rfl) ?_
            obtain ⟨b372, hb373, h⟩ := h
            rw [hb373]
            obtain ⟨n375, t374, h⟩ := h
            obtain ⟨i376, h⟩ := h
            refine z_iast hx hb hK hM hS t374 0 rfl i376 d_Y_read_111 (fun H locs hM hS => ?_)
            obtain ⟨M377, e378⟩ : ∃ z, z = zwI M369 b372 x2.toNatClampNeg x1 := ⟨_, rfl⟩
            replace h := h M377 e378
            rw [← e378] at hM
            refine lv_goto (tgt := 269) hx hb d_Y_read_112 rfl ?_
            refine lv_aload_n hx hb d_Y_read_269 rfl (hl.at 1 rfl) ?_
            refine lv_iload_n hx hb d_Y_read_270 rfl (hl.at 2 rfl) ?_
            have t379 : zT M377 a0 = some (9, 40) := by rw [e378]; exact t371
            refine z_cti (mc := 0) (ms := 0) (va_runV (As := [.int x1]) (rest := []) ⟨hx, hb, hml, hown, hW⟩ (c_Y_need l ca D M377 H.size a0 x1 _) (cw_Y_need hW k_738 ⟨by decide, by decide⟩) (zPre_V hK hN hM h t379 (by decide) rfl) rfl rfl hl.1.1 rfl (lv_room (Nat.le_of_ble_eq_true rfl)) d_Y_read_271 ⟨by decide, by decide⟩) hM hS hA (fun r380 M381 H locs h hM hS => ?_)
            refine lv_if_le (tgt := 283) hx hb d_Y_read_274 rfl (fun c382 => ?_) (fun c382 => ?_)
            · replace h := h.1 c382
              refine lv_aload_n hx hb d_Y_read_283 rfl (hl.at 1 rfl) ?_
              obtain ⟨t383, h⟩ := h
              refine z_getR hx hb hW in_9 hown hK hM t383 (by decide) rfl 9 (by decide) rfl (hW _ k_594) rfl d_Y_read_284 ?_
              refine lv_iload_n hx hb d_Y_read_287 rfl (hl.at 2 rfl) ?_
              obtain ⟨b384, hb385, h⟩ := h
              rw [hb385]
              obtain ⟨n387, t386, h⟩ := h
              obtain ⟨i388, h⟩ := h
              refine z_iald hx hb hK hM t386 0 rfl i388 d_Y_read_288 ?_
              refine W.widen (k := 0) (n := 0) (by decide) (by decide) ?_
              rw [← hQ]
              exact z_iret hx hb hr hlk hK hM hS h d_Y_read_289
            · replace h := h.2 c382
              refine lv_aload_n hx hb d_Y_read_277 rfl (hl.at 1 rfl) ?_
              refine lv_iconst (v := (0 : Int32)) hx hb d_Y_read_278 (by decide) ?_
              refine lv_iload_n hx hb d_Y_read_279 rfl (hl.at 2 rfl) ?_
              obtain ⟨t389, h⟩ := h
              refine z_ctv (mc := 0) (ms := 0) (va_runV (As := [.int (0 : Int32), .int x1]) (rest := []) ⟨hx, hb, hml, hown, hW⟩ (c_Y_tell l ca D M381 H.size a0 (0 : Int32) x1 _) (cw_Y_tell hW k_786 ⟨by decide, by decide⟩) (zPre_V hK hN hM h t389 (by decide) rfl) rfl rfl hl.1.1 rfl (lv_room (Nat.le_of_ble_eq_true rfl)) d_Y_read_280 ⟨by decide, by decide⟩) hM hS hA (fun M390 H locs h hM hS => ?_)
              refine lv_aload_n hx hb d_Y_read_283 rfl (hl.at 1 rfl) ?_
              obtain ⟨t391, h⟩ := h
              refine z_getR hx hb hW in_9 hown hK hM t391 (by decide) rfl 9 (by decide) rfl (hW _ k_594) rfl d_Y_read_284 ?_
              refine lv_iload_n hx hb d_Y_read_287 rfl (hl.at 2 rfl) ?_
              obtain ⟨b392, hb393, h⟩ := h
              rw [hb393]
              obtain ⟨n395, t394, h⟩ := h
              obtain ⟨i396, h⟩ := h
              refine z_iald hx hb hK hM t394 0 rfl i396 d_Y_read_288 ?_
              refine W.widen (k := 0) (n := 0) (by decide) (by decide) ?_
              rw [← hQ]
              exact z_iret hx hb hr hlk hK hM hS h d_Y_read_289
  have b_start : ∀ (M : zM) (H : Heap) (locs : List Loc) (ls : Array Slot) (a0 : Nat) (x1 : Int32), zL ls 5 [(0, .ref a0), (1, .int x1)] → zW ca D zcl A M H → va_S A s.heap H locs → w_Y_read M a0 x1 post → W p l e rm_Y_read s m args below meth c H locs 0 0 Q (F0 m 0 ls []) := by
    intro M H locs ls a0 x1 hl hM hS h
    unfold w_Y_read at h
    refine lv_aload_n hx hb d_Y_read_0 rfl (hl.at 0 rfl) ?_
    obtain ⟨t1, h⟩ := h
    refine z_getR hx hb hW in_9 hown hK hM t1 (by decide) rfl 8 (by decide) rfl (hW _ k_593) rfl d_Y_read_1 ?_
    refine lv_iload_n hx hb d_Y_read_4 rfl (hl.at 1 rfl) ?_
    obtain ⟨b2, hb3, h⟩ := h
    rw [hb3]
    obtain ⟨n5, t4, h⟩ := h
    obtain ⟨i6, h⟩ := h
    refine z_iald hx hb hK hM t4 0 rfl i6 d_Y_read_5 ?_
    refine z_istore_n hx hb d_Y_read_6 rfl hl (by decide) rfl (fun ls hl => ?_)
    have hl : zL ls 5 [(2, .int (zI M b2 x1.toNatClampNeg)), (0, .ref a0), (1, .int x1)] := hl
    refine lv_aload_n hx hb d_Y_read_7 rfl (hl.at 1 rfl) ?_
    refine z_getR hx hb hW in_9 hown hK hM t1 (by decide) rfl 16 (by decide) rfl (hW _ k_601) rfl d_Y_read_8 ?_
    refine lv_iload_n hx hb d_Y_read_11 rfl (hl.at 2 rfl) ?_
    obtain ⟨b7, hb8, h⟩ := h
    rw [hb8]
    obtain ⟨n10, t9, h⟩ := h
    obtain ⟨i11, h⟩ := h
    refine z_iald hx hb hK hM t9 0 rfl i11 d_Y_read_12 ?_
    refine z_istore_n hx hb d_Y_read_13 rfl hl (by decide) rfl (fun ls hl => ?_)
    have hl : zL ls 5 [(3, .int (zI M b7 x1.toNatClampNeg)), (2, .int (zI M b2 x1.toNatClampNeg)), (0, .ref a0), (1, .int x1)] := hl
    refine lv_aload_n hx hb d_Y_read_14 rfl (hl.at 2 rfl) ?_
    refine z_getR hx hb hW in_9 hown hK hM t1 (by decide) rfl 21 (by decide) rfl (hW _ k_606) rfl d_Y_read_15 ?_
    refine lv_iload_n hx hb d_Y_read_18 rfl (hl.at 1 rfl) ?_
    obtain ⟨b12, hb13, h⟩ := h
    rw [hb13]
    obtain ⟨n15, t14, h⟩ := h
    obtain ⟨i16, h⟩ := h
    refine z_iald hx hb hK hM t14 0 rfl i16 d_Y_read_19 ?_
    refine lv_iload_n hx hb d_Y_read_20 rfl (hl.at 3 rfl) ?_
    refine lv_icmp_ge (tgt := 28) hx hb d_Y_read_21 rfl (fun c17 => ?_) (fun c17 => ?_)
    · replace h := h.1 c17
      refine lv_iconst (v := (0 : Int32)) hx hb d_Y_read_28 (by decide) ?_
      exact b_29 M H locs ls a0 x1 (zI M b2 x1.toNatClampNeg) (zI M b7 x1.toNatClampNeg) (0 : Int32) (hl.sub [2, 3, 1, 0] rfl) hM hS h
    · replace h := h.2 c17
      refine lv_iconst (v := (1 : Int32)) hx hb d_Y_read_24 (by decide) ?_
      refine lv_goto (tgt := 29) hx hb d_Y_read_25 rfl ?_
      exact b_29 M H locs ls a0 x1 (zI M b2 x1.toNatClampNeg) (zI M b7 x1.toNatClampNeg) (1 : Int32) (hl.sub [2, 3, 1, 0] rfl) hM hS h
  exact b_start M s.heap [] ls a0 x1 hl hM hS h
