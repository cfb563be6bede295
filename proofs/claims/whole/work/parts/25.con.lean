set_option maxHeartbeats 4000000 in
set_option maxRecDepth 100000 in
theorem c_X_notice (l : Launch) (ca : Nat → ClassId) (D : va_G) (M : zM) (sz : Nat) (a0 : Nat) (post : Int32 → zM → Prop) : Met l y_X_notice (Cond.code y_X_notice prog_1_method_12_code 1 (some .int) :: zws) rm_X_notice (zPre ca D zcl (ztys ca) [.ref a0] M sz (w_X_notice M a0 post)) (va_Qi post (zB ca D zcl (ztys ca) (zA M sz)) (zA M sz)) 0 0 (zA M sz) := by
  refine z_met (cc := prog_1_method_12_code) (maxL := 1) (ret := (some .int)) (plainFor_of_name (by decide)) rfl (by simp [Value.category]) (Nat.le_of_ble_eq_true rfl) ?_
  intro p e s m args below meth c ls A hx hb hr hlk hml hts hown hnm hK hN hl hA0 hM hS hA h
  rw [← hA0]
  have hW : ∀ w ∈ zws, w.before args s = true := fun w hw => hts w (List.mem_cons_of_mem _ hw)
  have hl : zL ls 1 [(0, .ref a0)] := hl
  generalize hQ : MQ below (va_Qi post (zB ca D zcl (ztys ca) A) A) args s 0 0 A = Q
  have b_start : ∀ (M : zM) (H : Heap) (locs : List Loc) (ls : Array Slot) (a0 : Nat), zL ls 1 [(0, .ref a0)] → zW ca D zcl A M H → va_S A s.heap H locs → w_X_notice M a0 post → W p l e rm_X_notice s m args below meth c H locs 0 0 Q (F0 m 0 ls []) := by
    intro M H locs ls a0 hl hM hS h
    unfold w_X_notice at h
    refine lv_aload_n hx hb d_X_notice_0 rfl (hl.at 0 rfl) ?_
    obtain ⟨t1, h⟩ := h
    refine z_getR hx hb hW in_8 hown hK hM t1 (by decide) rfl 0 (by decide) rfl (hW _ k_185) rfl d_X_notice_1 ?_
    obtain ⟨b2, hb3, h⟩ := h
    rw [hb3]
    obtain ⟨t4, h⟩ := h
    refine z_getI hx hb hW in_5 hown hK hM t4 (by decide) rfl 4 (by decide) rfl (hW _ k_92) rfl d_X_notice_4 ?_
    refine lv_if_eq (tgt := 20) hx hb d_X_notice_7 rfl (fun c5 => ?_) (fun c5 => ?_)
    · replace h := h.1 c5
      refine lv_iconst (v := (-1 : Int32)) hx hb d_X_notice_20 (by decide) ?_
      rw [← hQ]
      exact z_iret hx hb hr hlk hK hM hS h d_X_notice_21
    · replace h := h.2 c5
      refine lv_aload_n hx hb d_X_notice_10 rfl (hl.at 0 rfl) ?_
      refine z_getR hx hb hW in_8 hown hK hM t1 (by decide) rfl 1 (by decide) rfl (hW _ k_186) rfl d_X_notice_11 ?_
      obtain ⟨b6, hb7, h⟩ := h
      rw [hb7]
      obtain ⟨t8, h⟩ := h
      refine z_getI hx hb hW in_1 hown hK hM t8 (by decide) rfl 3 (by decide) rfl (hW _ k_154) rfl d_X_notice_14 ?_
      refine lv_if_eq (tgt := 22) hx hb d_X_notice_17 rfl (fun c9 => ?_) (fun c9 => ?_)
      · replace h := h.1 c9
        refine lv_aload_n hx hb d_X_notice_22 rfl (hl.at 0 rfl) ?_
        refine z_getR hx hb hW in_8 hown hK hM t1 (by decide) rfl 1 (by decide) rfl (hW _ k_186) rfl d_X_notice_23 ?_
        refine lv_iconst (v := (1 : Int32)) hx hb d_X_notice_26 (by decide) ?_
        obtain ⟨b10, hb11, h⟩ := h
        rw [hb11]
        obtain ⟨t12, h⟩ := h
        refine z_putI hx hb hW in_1 ty_1 tyok_1 nm_1 hown hK hM hS t12 (by decide) rfl 3 (by decide) rfl (hW _ k_154) rfl (Or.inl rfl) rfl rfl d_X_notice_27 (fun H locs hM hS => ?_)
        obtain ⟨M13, e14⟩ : ∃ z, z = zwI M b10 3 (1 : Int32) := ⟨_, rfl⟩
        replace h := h M13 e14
        rw [← e14] at hM
        refine lv_aload_n hx hb d_X_notice_30 rfl (hl.at 0 rfl) ?_
        refine lv_aload_n hx hb d_X_notice_31 rfl (hl.at 0 rfl) ?_
        have t15 : zT M13 a0 = some (8, 6) := by rw [e14]; exact t1
        refine z_getR hx hb hW in_8 hown hK hM t15 (by decide) rfl 0 (by decide) rfl (hW _ k_185) rfl d_X_notice_32 ?_
        obtain ⟨b16, hb17, h⟩ := h
        rw [hb17]
        obtain ⟨t18, h⟩ := h
        refine z_getI hx hb hW in_5 hown hK hM t18 (by decide) rfl 5 (by decide) rfl (hW _ k_94) rfl d_X_notice_35 ?_
        refine z_cti (mc := 0) (ms := 0) (va_runV (As := [.int (zI M13 b16 5)]) (rest := []) ⟨hx, hb, hml, hown, hW⟩ (c_X_refuseFrom l ca D M13 H.size a0 (zI M13 b16 5) _) (cw_X_refuseFrom hW k_531 ⟨by decide, by decide⟩) (zPre_V hK hN hM h t15 (by decide) rfl) rfl rfl hl.1.1 rfl (lv_room (Nat.le_of_ble_eq_true rfl)) d_X_notice_38 ⟨by decide, by decide⟩) hM hS hA (fun r19 M20 H locs h hM hS => ?_)
        refine W.widen (k := 0) (n := 0) (by decide) (by decide) ?_
        rw [← hQ]
        exact z_iret hx hb hr hlk hK hM hS h d_X_notice_41
      · replace h := h.2 c9
        refine lv_iconst (v := (-1 : Int32)) hx hb d_X_notice_20 (by decide) ?_
        rw [← hQ]
        exact z_iret hx hb hr hlk hK hM hS h d_X_notice_21
  exact b_start M s.heap [] ls a0 hl hM hS h
set_option maxHeartbeats 4000000 in
set_option maxRecDepth 100000 in
theorem c_X_cancel (l : Launch) (ca : Nat → ClassId) (D : va_G) (M : zM) (sz : Nat) (a0 : Nat) (x1 : Int32) (post : Int32 → zM → Prop) : Met l y_X_cancel (Cond.code y_X_cancel prog_1_method_13_code 3 (some .boolean) :: zws) rm_X_cancel (zPre ca D zcl (ztys ca) [.ref a0, .int x1] M sz (w_X_cancel M a0 x1 post)) (va_Qi post (zB ca D zcl (ztys ca) (zA M sz)) (zA M sz)) 0 0 (zA M sz) := by
  refine z_met (cc := prog_1_method_13_code) (maxL := 3) (ret := (some .boolean)) (plainFor_of_name (by decide)) rfl (by simp [Value.category]) (Nat.le_of_ble_eq_true rfl) ?_
  intro p e s m args below meth c ls A hx hb hr hlk hml hts hown hnm hK hN hl hA0 hM hS hA h
  rw [← hA0]
  have hW : ∀ w ∈ zws, w.before args s = true := fun w hw => hts w (List.mem_cons_of_mem _ hw)
  have hl : zL ls 3 [(0, .ref a0), (1, .int x1)] := hl
  generalize hQ : MQ below (va_Qi post (zB ca D zcl (ztys ca) A) A) args s 0 0 A = Q
  have b_54 : ∀ (M : zM) (H : Heap) (locs : List Loc) (ls : Array Slot) (a0 : Nat) (x1 : Int32) (a2 : Nat), zL ls 3 [(0, .ref a0), (1, .int x1), (2, .ref a2)] → zW ca D zcl A M H → va_S A s.heap H locs → w_X_cancel_54 post M a0 x1 a2 → W p l e rm_X_cancel s m args below meth c H locs 0 0 Q (F0 m 54 ls []) := by
    intro M H locs ls a0 x1 a2 hl hM hS h
    unfold w_X_cancel_54 at h
    refine lv_aload_n hx hb d_X_cancel_54 rfl (hl.at 0 rfl) ?_
    obtain ⟨t13, h⟩ := h
    refine z_getR hx hb hW in_8 hown hK hM t13 (by decide) rfl 2 (by decide) rfl (hW _ k_187) rfl d_X_cancel_55 ?_
    refine lv_iconst (v := (1 : Int32)) hx hb d_X_cancel_58 (by decide) ?_
    refine lv_aload_n hx hb d_X_cancel_59 rfl (hl.at 2 rfl) ?_
    obtain ⟨t14, h⟩ := h
    refine z_getI hx hb hW in_3 hown hK hM t14 (by decide) rfl 0 (by decide) rfl (hW _ k_243) rfl d_X_cancel_60 ?_
    obtain ⟨b15, hb16, h⟩ := h
    rw [hb16]
    obtain ⟨t17, h⟩ := h
    refine z_ctv (mc := 0) (ms := 0) (va_runV (As := [.int (1 : Int32), .int (zI M a2 0)]) (rest := []) ⟨hx, hb, hml, hown, hW⟩ (c_F_append l ca D M H.size b15 (1 : Int32) (zI M a2 0) _) (cw_F_append hW k_518 ⟨by decide, by decide⟩) (zPre_V hK hN hM h t17 (by decide) rfl) rfl rfl hl.1.1 rfl (lv_room (Nat.le_of_ble_eq_true rfl)) d_X_cancel_63 ⟨by decide, by decide⟩) hM hS hA (fun M18 H locs h hM hS => ?_)
    refine lv_iconst (v := (1 : Int32)) hx hb d_X_cancel_66 (by decide) ?_
    refine W.widen (k := 0) (n := 0) (by decide) (by decide) ?_
    rw [← hQ]
    exact z_zret hx hb hr hlk rfl hK hM hS h d_X_cancel_67
  have b_start : ∀ (M : zM) (H : Heap) (locs : List Loc) (ls : Array Slot) (a0 : Nat) (x1 : Int32), zL ls 3 [(0, .ref a0), (1, .int x1)] → zW ca D zcl A M H → va_S A s.heap H locs → w_X_cancel M a0 x1 post → W p l e rm_X_cancel s m args below meth c H locs 0 0 Q (F0 m 0 ls []) := by
    intro M H locs ls a0 x1 hl hM hS h
    unfold w_X_cancel at h
    refine lv_aload_n hx hb d_X_cancel_0 rfl (hl.at 0 rfl) ?_
    refine lv_iload_n hx hb d_X_cancel_1 rfl (hl.at 1 rfl) ?_
    obtain ⟨t1, h⟩ := h
    refine z_ctq (mc := 0) (ms := 0) (va_runV (As := [.int x1]) (rest := []) ⟨hx, hb, hml, hown, hW⟩ (c_X_requestAt l ca D M H.size a0 x1 _) (cw_X_requestAt hW k_312 ⟨by decide, by decide⟩) (zPre_V hK hN hM h t1 (by decide) rfl) rfl rfl hl.1.1 rfl (lv_room (Nat.le_of_ble_eq_true rfl)) d_X_cancel_2 ⟨by decide, by decide⟩) hM hS hA (fun r2 M3 H locs h hM hS => ?_)
    refine z_astore_n (x := r2) hx hb d_X_cancel_5 rfl hl (by decide) rfl (fun ls hl => ?_)
    have hl : zL ls 3 [(2, va_rf r2), (0, .ref a0), (1, .int x1)] := hl
    refine z_aload_n hx hb d_X_cancel_6 rfl (hl.at 0 rfl) ?_
    cases r2 with
    | none =>
      replace h := h.1 rfl
      refine lv_ifnullN (tgt := 17) hx hb d_X_cancel_7 rfl ?_
      refine lv_iconst (v := (0 : Int32)) hx hb d_X_cancel_17 (by decide) ?_
      refine W.widen (k := 0) (n := 0) (by decide) (by decide) ?_
      rw [← hQ]
      exact z_zret hx hb hr hlk rfl hK hM hS h d_X_cancel_18
    | some b4 =>
      replace h := h.2 b4 rfl
      refine lv_ifnull hx hb d_X_cancel_7 ?_
      refine lv_aload_n hx hb d_X_cancel_10 rfl (hl.at 0 rfl) ?_
      obtain ⟨t5, h⟩ := h
      refine z_getI hx hb hW in_3 hown hK hM t5 (by decide) rfl 9 (by decide) rfl (hW _ k_262) rfl d_X_cancel_11 ?_
      refine lv_if_eq (tgt := 19) hx hb d_X_cancel_14 rfl (fun c6 => ?_) (fun c6 => ?_)
      · replace h := h.1 c6
        refine lv_aload_n hx hb d_X_cancel_19 rfl (hl.at 0 rfl) ?_
        refine lv_bipush (v := (6 : Int32)) hx hb d_X_cancel_20 (by decide) ?_
        refine lv_iconst (v := (0 : Int32)) hx hb d_X_cancel_22 (by decide) ?_
        refine z_ctv (mc := 0) (ms := 0) (va_runV (As := [.int (6 : Int32), .int (0 : Int32)]) (rest := []) ⟨hx, hb, hml, hown, hW⟩ (c_Q_settle l ca D M3 H.size b4 (6 : Int32) (0 : Int32) _) (cw_Q_settle hW k_535 ⟨by decide, by decide⟩) (zPre_V hK hN hM h t5 (by decide) rfl) rfl rfl hl.1.1 rfl (lv_room (Nat.le_of_ble_eq_true rfl)) d_X_cancel_23 ⟨by decide, by decide⟩) hM hS hA (fun M7 H locs h hM hS => ?_)
        refine lv_aload_n hx hb d_X_cancel_26 rfl (hl.at 0 rfl) ?_
        refine lv_iconst (v := (0 : Int32)) hx hb d_X_cancel_27 (by decide) ?_
        obtain ⟨t8, h⟩ := h
        refine z_putI hx hb hW in_3 ty_3 tyok_3 nm_3 hown hK hM hS t8 (by decide) rfl 8 (by decide) rfl (hW _ k_260) rfl (Or.inl rfl) rfl rfl d_X_cancel_28 (fun H locs hM hS => ?_)
        obtain ⟨M9, e10⟩ : ∃ z, z = zwI M7 b4 8 (0 : Int32) := ⟨_, rfl⟩
        replace h := h M9 e10
        rw [← e10] at hM
        refine lv_aload_n hx hb d_X_cancel_31 rfl (hl.at 0 rfl) ?_
        have t11 : zT M9 b4 = some (3, 12) := by rw [e10]; exact t8
        refine z_getR hx hb hW in_3 hown hK hM t11 (by decide) rfl 11 (by decide) rfl (hW _ k_266) rfl d_X_cancel_32 ?_
        cases hc30 : zR M9 b4 11 with
        | none =>
          replace h := h.1 hc30
          refine lv_ifnullN (tgt := 54) hx hb d_X_cancel_35 rfl ?_
          refine W.widen (k := 0) (n := 0) (by decide) (by decide) ?_
          exact b_54 M9 H locs ls a0 x1 b4 (hl.sub [1, 2, 0] rfl) hM hS h
        | some b12 =>
          replace h := h.2 b12 hc30
          refine lv_ifnull hx hb d_X_cancel_35 ?_
          refine lv_aload_n hx hb d_X_cancel_38 rfl (hl.at 0 rfl) ?_
          refine z_getR hx hb hW in_3 hown hK hM t11 (by decide) rfl 11 (by decide) rfl (hW _ k_266) rfl d_X_cancel_39 ?_
          refine lv_iconst (v := (0 : Int32)) hx hb d_X_cancel_42 (by decide) ?_
          obtain ⟨b19, hb20, h⟩ := h
          rw [hb20]
          obtain ⟨t21, h⟩ := h
          refine z_putI hx hb hW in_0 ty_0 tyok_0 nm_0 hown hK hM hS t21 (by decide) rfl 7 (by decide) rfl (hW _ k_351) rfl (Or.inl rfl) rfl rfl d_X_cancel_43 (fun H locs hM hS => ?_)
          obtain ⟨M22, e23⟩ : ∃ z, z = zwI M9 b19 7 (0 : Int32) := ⟨_, rfl⟩
          replace h := h M22 e23
          rw [← e23] at hM
          refine lv_aload_n hx hb d_X_cancel_46 rfl (hl.at 0 rfl) ?_
          have t24 : zT M22 b4 = some (3, 12) := by rw [e23]; exact t11
          refine z_getR hx hb hW in_3 hown hK hM t24 (by decide) rfl 11 (by decide) rfl (hW _ k_266) rfl d_X_cancel_47 ?_
          refine lv_iconst (v := (0 : Int32)) hx hb d_X_cancel_50 (by decide) ?_
          obtain ⟨b25, hb26, h⟩ := h
          rw [hb26]
          obtain ⟨t27, h⟩ := h
          refine z_putI hx hb hW in_0 ty_0 tyok_0 nm_0 hown hK hM hS t27 (by decide) rfl 8 (by decide) rfl (hW _ k_352) rfl (Or.inl rfl) rfl rfl d_X_cancel_51 (fun H locs hM hS => ?_)
          obtain ⟨M28, e29⟩ : ∃ z, z = zwI M22 b25 8 (0 : Int32) := ⟨_, rfl⟩
          replace h := h M28 e29
          rw [← e29] at hM
          refine W.widen (k := 0) (n := 0) (by decide) (by decide) ?_
          exact b_54 M28 H locs ls a0 x1 b4 (hl.sub [1, 2, 0] rfl) hM hS h
      · replace h := h.2 c6
        refine lv_iconst (v := (0 : Int32)) hx hb d_X_cancel_17 (by decide) ?_
        refine W.widen (k := 0) (n := 0) (by decide) (by decide) ?_
        rw [← hQ]
        exact z_zret hx hb hr hlk rfl hK hM hS h d_X_cancel_18
  exact b_start M s.heap [] ls a0 x1 hl hM hS h
set_option maxHeartbeats 4000000 in
set_option maxRecDepth 100000 in
theorem c_X_tick (l : Launch) (ca : Nat → ClassId) (D : va_G) (M : zM) (sz : Nat) (a0 : Nat) (x1 : Int32) (post : Int32 → zM → Prop) : Met l y_X_tick (Cond.code y_X_tick prog_1_method_14_code 2 (some .boolean) :: zws) rm_X_tick (zPre ca D zcl (ztys ca) [.ref a0, .int x1] M sz (w_X_tick M a0 x1 post)) (va_Qi post (zB ca D zcl (ztys ca) (zA M sz)) (zA M sz)) 0 0 (zA M sz) := by
  refine z_met (cc := prog_1_method_14_code) (maxL := 2) (ret := (some .boolean)) (plainFor_of_name (by decide)) rfl (by simp [Value.category]) (Nat.le_of_ble_eq_true rfl) ?_
  intro p e s m args below meth c ls A hx hb hr hlk hml hts hown hnm hK hN hl hA0 hM hS hA h
  rw [← hA0]
  have hW : ∀ w ∈ zws, w.before args s = true := fun w hw => hts w (List.mem_cons_of_mem _ hw)
  have hl : zL ls 2 [(0, .ref a0), (1, .int x1)] := hl
  generalize hQ : MQ below (va_Qi post (zB ca D zcl (ztys ca) A) A) args s 0 0 A = Q
  have b_start : ∀ (M : zM) (H : Heap) (locs : List Loc) (ls : Array Slot) (a0 : Nat) (x1 : Int32), zL ls 2 [(0, .ref a0), (1, .int x1)] → zW ca D zcl A M H → va_S A s.heap H locs → w_X_tick M a0 x1 post → W p l e rm_X_tick s m args below meth c H locs 0 0 Q (F0 m 0 ls []) := by
    intro M H locs ls a0 x1 hl hM hS h
    unfold w_X_tick at h
    refine lv_iload_n hx hb d_X_tick_0 rfl (hl.at 1 rfl) ?_
    refine lv_if_lt (tgt := 11) hx hb d_X_tick_1 rfl (fun c1 => ?_) (fun c1 => ?_)
    · replace h := h.1 c1
      refine lv_iconst (v := (0 : Int32)) hx hb d_X_tick_11 (by decide) ?_
      rw [← hQ]
      exact z_zret hx hb hr hlk rfl hK hM hS h d_X_tick_12
    · replace h := h.2 c1
      refine lv_iload_n hx hb d_X_tick_4 rfl (hl.at 1 rfl) ?_
      refine lv_sipush (v := (1000 : Int32)) hx hb d_X_tick_5 (by decide) ?_
      refine lv_icmp_le (tgt := 13) hx hb d_X_tick_8 rfl (fun c2 => ?_) (fun c2 => ?_)
      · replace h := h.1 c2
        refine lv_aload_n hx hb d_X_tick_13 rfl (hl.at 0 rfl) ?_
        refine lv_dup hx hb d_X_tick_14 rfl ?_
        obtain ⟨t3, h⟩ := h
        refine z_getI hx hb hW in_8 hown hK hM t3 (by decide) rfl 5 (by decide) rfl (hW _ k_190) rfl d_X_tick_15 ?_
        refine lv_iload_n hx hb d_X_tick_18 rfl (hl.at 1 rfl) ?_
        refine lv_iadd hx hb d_X_tick_19 ?_
        refine z_putI hx hb hW in_8 ty_8 tyok_8 nm_8 hown hK hM hS t3 (by decide) rfl 5 (by decide) rfl (hW _ k_190) rfl (Or.inl rfl) rfl rfl d_X_tick_20 (fun H locs hM hS => ?_)
        obtain ⟨M4, e5⟩ : ∃ z, z = zwI M a0 5 ((zI M a0 5) + x1) := ⟨_, rfl⟩
        replace h := h M4 e5
        rw [← e5] at hM
        refine lv_iconst (v := (1 : Int32)) hx hb d_X_tick_23 (by decide) ?_
        rw [← hQ]
        exact z_zret hx hb hr hlk rfl hK hM hS h d_X_tick_24
      · replace h := h.2 c2
        refine lv_iconst (v := (0 : Int32)) hx hb d_X_tick_11 (by decide) ?_
        rw [← hQ]
        exact z_zret hx hb hr hlk rfl hK hM hS h d_X_tick_12
  exact b_start M s.heap [] ls a0 x1 hl hM hS h
set_option maxHeartbeats 4000000 in
set_option maxRecDepth 100000 in
theorem c_X_outcome (l : Launch) (ca : Nat → ClassId) (D : va_G) (M : zM) (sz : Nat) (a0 : Nat) (x1 : Int32) (post : Int32 → zM → Prop) : Met l y_X_outcome (Cond.code y_X_outcome prog_1_method_15_code 3 (some .int) :: zws) rm_X_outcome (zPre ca D zcl (ztys ca) [.ref a0, .int x1] M sz (w_X_outcome M a0 x1 post)) (va_Qi post (zB ca D zcl (ztys ca) (zA M sz)) (zA M sz)) 0 0 (zA M sz) := by
  refine z_met (cc := prog_1_method_15_code) (maxL := 3) (ret := (some .int)) (plainFor_of_name (by decide)) rfl (by simp [Value.category]) (Nat.le_of_ble_eq_true rfl) ?_
  intro p e s m args below meth c ls A hx hb hr hlk hml hts hown hnm hK hN hl hA0 hM hS hA h
  rw [← hA0]
  have hW : ∀ w ∈ zws, w.before args s = true := fun w hw => hts w (List.mem_cons_of_mem _ hw)
  have hl : zL ls 3 [(0, .ref a0), (1, .int x1)] := hl
  generalize hQ : MQ below (va_Qi post (zB ca D zcl (ztys ca) A) A) args s 0 0 A = Q
  have b_start : ∀ (M : zM) (H : Heap) (locs : List Loc) (ls : Array Slot) (a0 : Nat) (x1 : Int32), zL ls 3 [(0, .ref a0), (1, .int x1)] → zW ca D zcl A M H → va_S A s.heap H locs → w_X_outcome M a0 x1 post → W p l e rm_X_outcome s m args below meth c H locs 0 0 Q (F0 m 0 ls []) := by
    intro M H locs ls a0 x1 hl hM hS h
    unfold w_X_outcome at h
    refine lv_aload_n hx hb d_X_outcome_0 rfl (hl.at 0 rfl) ?_
    refine lv_iload_n hx hb d_X_outcome_1 rfl (hl.at 1 rfl) ?_
    obtain ⟨t1, h⟩ := h
    refine z_ctq (mc := 0) (ms := 0) (va_runV (As := [.int x1]) (rest := []) ⟨hx, hb, hml, hown, hW⟩ (c_X_requestAt l ca D M H.size a0 x1 _) (cw_X_requestAt hW k_312 ⟨by decide, by decide⟩) (zPre_V hK hN hM h t1 (by decide) rfl) rfl rfl hl.1.1 rfl (lv_room (Nat.le_of_ble_eq_true rfl)) d_X_outcome_2 ⟨by decide, by decide⟩) hM hS hA (fun r2 M3 H locs h hM hS => ?_)
    refine z_astore_n (x := r2) hx hb d_X_outcome_5 rfl hl (by decide) rfl (fun ls hl => ?_)
    have hl : zL ls 3 [(2, va_rf r2), (0, .ref a0), (1, .int x1)] := hl
    refine z_aload_n hx hb d_X_outcome_6 rfl (hl.at 0 rfl) ?_
    cases r2 with
    | none =>
      replace h := h.1 rfl
      refine lv_ifnonnullN hx hb d_X_outcome_7 ?_
      refine lv_iconst (v := (-1 : Int32)) hx hb d_X_outcome_10 (by decide) ?_
      refine lv_goto (tgt := 18) hx hb d_X_outcome_11 rfl ?_
      refine W.widen (k := 0) (n := 0) (by decide) (by decide) ?_
      rw [← hQ]
      exact z_iret hx hb hr hlk hK hM hS h d_X_outcome_18
    | some b4 =>
      replace h := h.2 b4 rfl
      refine lv_ifnonnull (tgt := 14) hx hb d_X_outcome_7 rfl ?_
      refine lv_aload_n hx hb d_X_outcome_14 rfl (hl.at 0 rfl) ?_
      obtain ⟨t5, h⟩ := h
      refine z_getI hx hb hW in_3 hown hK hM t5 (by decide) rfl 9 (by decide) rfl (hW _ k_262) rfl d_X_outcome_15 ?_
      refine W.widen (k := 0) (n := 0) (by decide) (by decide) ?_
      rw [← hQ]
      exact z_iret hx hb hr hlk hK hM hS h d_X_outcome_18
  exact b_start M s.heap [] ls a0 x1 hl hM hS h
set_option maxHeartbeats 4000000 in
set_option maxRecDepth 100000 in
theorem c_X_content (l : Launch) (ca : Nat → ClassId) (D : va_G) (M : zM) (sz : Nat) (a0 : Nat) (x1 : Int32) (post : Int32 → zM → Prop) : Met l y_X_content (Cond.code y_X_content prog_1_method_16_code 3 (some .int) :: zws) rm_X_content (zPre ca D zcl (ztys ca) [.ref a0, .int x1] M sz (w_X_content M a0 x1 post)) (va_Qi post (zB ca D zcl (ztys ca) (zA M sz)) (zA M sz)) 0 0 (zA M sz) := by
  refine z_met (cc := prog_1_method_16_code) (maxL := 3) (ret := (some .int)) (plainFor_of_name (by decide)) rfl (by simp [Value.category]) (Nat.le_of_ble_eq_true rfl) ?_
  intro p e s m args below meth c ls A hx hb hr hlk hml hts hown hnm hK hN hl hA0 hM hS hA h
  rw [← hA0]
  have hW : ∀ w ∈ zws, w.before args s = true := fun w hw => hts w (List.mem_cons_of_mem _ hw)
  have hl : zL ls 3 [(0, .ref a0), (1, .int x1)] := hl
  generalize hQ : MQ below (va_Qi post (zB ca D zcl (ztys ca) A) A) args s 0 0 A = Q
  have b_start : ∀ (M : zM) (H : Heap) (locs : List Loc) (ls : Array Slot) (a0 : Nat) (x1 : Int32), zL ls 3 [(0, .ref a0), (1, .int x1)] → zW ca D zcl A M H → va_S A s.heap H locs → w_X_content M a0 x1 post → W p l e rm_X_content s m args below meth c H locs 0 0 Q (F0 m 0 ls []) := by
    intro M H locs ls a0 x1 hl hM hS h
    unfold w_X_content at h
    refine lv_aload_n hx hb d_X_content_0 rfl (hl.at 0 rfl) ?_
    refine lv_iload_n hx hb d_X_content_1 rfl (hl.at 1 rfl) ?_
    obtain ⟨t1, h⟩ := h
    refine z_ctq (mc := 0) (ms := 0) (va_runV (As := [.int x1]) (rest := []) ⟨hx, hb, hml, hown, hW⟩ (c_X_requestAt l ca D M H.size a0 x1 _) (cw_X_requestAt hW k_312 ⟨by decide, by decide⟩) (zPre_V hK hN hM h t1 (by decide) rfl) rfl rfl hl.1.1 rfl (lv_room (Nat.le_of_ble_eq_true rfl)) d_X_content_2 ⟨by decide, by decide⟩) hM hS hA (fun r2 M3 H locs h hM hS => ?_)
    refine z_astore_n (x := r2) hx hb d_X_content_5 rfl hl (by decide) rfl (fun ls hl => ?_)
    have hl : zL ls 3 [(2, va_rf r2), (0, .ref a0), (1, .int x1)] := hl
    refine z_aload_n hx hb d_X_content_6 rfl (hl.at 0 rfl) ?_
    cases r2 with
    | none =>
      replace h := h.1 rfl
      refine lv_ifnonnullN hx hb d_X_content_7 ?_
      refine lv_iconst (v := (-1 : Int32)) hx hb d_X_content_10 (by decide) ?_
      refine lv_goto (tgt := 18) hx hb d_X_content_11 rfl ?_
      refine W.widen (k := 0) (n := 0) (by decide) (by decide) ?_
      rw [← hQ]
      exact z_iret hx hb hr hlk hK hM hS h d_X_content_18
    | some b4 =>
      replace h := h.2 b4 rfl
      refine lv_ifnonnull (tgt := 14) hx hb d_X_content_7 rfl ?_
      refine lv_aload_n hx hb d_X_content_14 rfl (hl.at 0 rfl) ?_
      obtain ⟨t5, h⟩ := h
      refine z_getI hx hb hW in_3 hown hK hM t5 (by decide) rfl 10 (by decide) rfl (hW _ k_264) rfl d_X_content_15 ?_
      refine W.widen (k := 0) (n := 0) (by decide) (by decide) ?_
      rw [← hQ]
      exact z_iret hx hb hr hlk hK hM hS h d_X_content_18
  exact b_start M s.heap [] ls a0 x1 hl hM hS h
set_option maxHeartbeats 4000000 in
set_option maxRecDepth 100000 in
theorem c_X_stored (l : Launch) (ca : Nat → ClassId) (D : va_G) (M : zM) (sz : Nat) (a0 : Nat) (x1 : Int32) (x2 : Int32) (post : Int32 → zM → Prop) : Met l y_X_stored (Cond.code y_X_stored prog_1_method_17_code 4 (some .int) :: zws) rm_X_stored (zPre ca D zcl (ztys ca) [.ref a0, .int x1, .int x2] M sz (w_X_stored M a0 x1 x2 post)) (va_Qi post (zB ca D zcl (ztys ca) (zA M sz)) (zA M sz)) 0 0 (zA M sz) := by
  refine z_met (cc := prog_1_method_17_code) (maxL := 4) (ret := (some .int)) (plainFor_of_name (by decide)) rfl (by simp [Value.category]) (Nat.le_of_ble_eq_true rfl) ?_
  intro p e s m args below meth c ls A hx hb hr hlk hml hts hown hnm hK hN hl hA0 hM hS hA h
  rw [← hA0]
  have hW : ∀ w ∈ zws, w.before args s = true := fun w hw => hts w (List.mem_cons_of_mem _ hw)
  have hl : zL ls 4 [(0, .ref a0), (1, .int x1), (2, .int x2)] := hl
  generalize hQ : MQ below (va_Qi post (zB ca D zcl (ztys ca) A) A) args s 0 0 A = Q
  have b_start : ∀ (M : zM) (H : Heap) (locs : List Loc) (ls : Array Slot) (a0 : Nat) (x1 : Int32) (x2 : Int32), zL ls 4 [(0, .ref a0), (1, .int x1), (2, .int x2)] → zW ca D zcl A M H → va_S A s.heap H locs → w_X_stored M a0 x1 x2 post → W p l e rm_X_stored s m args below meth c H locs 0 0 Q (F0 m 0 ls []) := by
    intro M H locs ls a0 x1 x2 hl hM hS h
    unfold w_X_stored at h
    refine lv_aload_n hx hb d_X_stored_0 rfl (hl.at 0 rfl) ?_
    obtain ⟨t1, h⟩ := h
    refine z_getR hx hb hW in_8 hown hK hM t1 (by decide) rfl 1 (by decide) rfl (hW _ k_186) rfl d_X_stored_1 ?_
    refine lv_iload_n hx hb d_X_stored_4 rfl (hl.at 1 rfl) ?_
    obtain ⟨b2, hb3, h⟩ := h
    rw [hb3]
    obtain ⟨t4, h⟩ := h
    refine z_ctq (mc := 0) (ms := 0) (va_runV (As := [.int x1]) (rest := []) ⟨hx, hb, hml, hown, hW⟩ (c_C_storedAt l ca D M H.size b2 x1 _) (cw_C_storedAt hW k_231 ⟨by decide, by decide⟩) (zPre_V hK hN hM h t4 (by decide) rfl) rfl rfl hl.1.1 rfl (lv_room (Nat.le_of_ble_eq_true rfl)) d_X_stored_5 ⟨by decide, by decide⟩) hM hS hA (fun r5 M6 H locs h hM hS => ?_)
    refine z_astore_n (x := r5) hx hb d_X_stored_8 rfl hl (by decide) rfl (fun ls hl => ?_)
    have hl : zL ls 4 [(3, va_rf r5), (0, .ref a0), (1, .int x1), (2, .int x2)] := hl
    refine z_aload_n hx hb d_X_stored_9 rfl (hl.at 0 rfl) ?_
    cases r5 with
    | none =>
      replace h := h.1 rfl
      refine lv_ifnullN (tgt := 20) hx hb d_X_stored_10 rfl ?_
      refine lv_iconst (v := (-1 : Int32)) hx hb d_X_stored_20 (by decide) ?_
      refine W.widen (k := 0) (n := 0) (by decide) (by decide) ?_
      rw [← hQ]
      exact z_iret hx hb hr hlk hK hM hS h d_X_stored_21
    | some b7 =>
      replace h := h.2 b7 rfl
      refine lv_ifnull hx hb d_X_stored_10 ?_
      refine lv_aload_n hx hb d_X_stored_13 rfl (hl.at 0 rfl) ?_
      obtain ⟨t8, h⟩ := h
      refine z_getI hx hb hW in_6 hown hK hM t8 (by decide) rfl 0 (by decide) rfl (hW _ k_123) rfl d_X_stored_14 ?_
      refine lv_if_ne (tgt := 22) hx hb d_X_stored_17 rfl (fun c9 => ?_) (fun c9 => ?_)
      · replace h := h.2 c9
        refine lv_iload_n hx hb d_X_stored_22 rfl (hl.at 3 rfl) ?_
        by_cases c10 : x2 = (0 : Int32)
        · replace h := h.1 c10
          refine z_tsIn (tgt := 52) (0 : Int32) c10 hx hb d_X_stored_23 (by decide) (by decide) rfl rfl ?_
          refine lv_aload_n hx hb d_X_stored_52 rfl (hl.at 0 rfl) ?_
          refine z_getI hx hb hW in_6 hown hK hM t8 (by decide) rfl 1 (by decide) rfl (hW _ k_125) rfl d_X_stored_53 ?_
          refine W.widen (k := 0) (n := 0) (by decide) (by decide) ?_
          rw [← hQ]
          exact z_iret hx hb hr hlk hK hM hS h d_X_stored_56
        replace h := h.2 c10
        by_cases c11 : x2 = (1 : Int32)
        · replace h := h.1 c11
          refine z_tsIn (tgt := 57) (1 : Int32) c11 hx hb d_X_stored_23 (by decide) (by decide) rfl rfl ?_
          refine lv_aload_n hx hb d_X_stored_57 rfl (hl.at 0 rfl) ?_
          refine z_getI hx hb hW in_6 hown hK hM t8 (by decide) rfl 2 (by decide) rfl (hW _ k_127) rfl d_X_stored_58 ?_
          refine W.widen (k := 0) (n := 0) (by decide) (by decide) ?_
          rw [← hQ]
          exact z_iret hx hb hr hlk hK hM hS h d_X_stored_61
        replace h := h.2 c11
        by_cases c12 : x2 = (2 : Int32)
        · replace h := h.1 c12
          refine z_tsIn (tgt := 62) (2 : Int32) c12 hx hb d_X_stored_23 (by decide) (by decide) rfl rfl ?_
          refine lv_aload_n hx hb d_X_stored_62 rfl (hl.at 0 rfl) ?_
          refine z_getI hx hb hW in_6 hown hK hM t8 (by decide) rfl 5 (by decide) rfl (hW _ k_134) rfl d_X_stored_63 ?_
          refine W.widen (k := 0) (n := 0) (by decide) (by decide) ?_
          rw [← hQ]
          exact z_iret hx hb hr hlk hK hM hS h d_X_stored_66
        replace h := h.2 c12
        by_cases c13 : x2 = (3 : Int32)
        · replace h := h.1 c13
          refine z_tsIn (tgt := 67) (3 : Int32) c13 hx hb d_X_stored_23 (by decide) (by decide) rfl rfl ?_
          refine lv_aload_n hx hb d_X_stored_67 rfl (hl.at 0 rfl) ?_
          refine lv_aload_n hx hb d_X_stored_68 rfl (hl.at 1 rfl) ?_
          obtain ⟨t14, h⟩ := h
          refine z_getI hx hb hW in_8 hown hK hM t14 (by decide) rfl 5 (by decide) rfl (hW _ k_190) rfl d_X_stored_69 ?_
          refine z_cti (mc := 0) (ms := 0) (va_runV (As := [.int (zI M6 a0 5)]) (rest := []) ⟨hx, hb, hml, hown, hW⟩ (c_K_freshFor l ca D M6 H.size b7 (zI M6 a0 5) _) (cw_K_freshFor hW k_556 ⟨by decide, by decide⟩) (zPre_V hK hN hM h t8 (by decide) rfl) rfl rfl hl.1.1 rfl (lv_room (Nat.le_of_ble_eq_true rfl)) d_X_stored_72 ⟨by decide, by decide⟩) hM hS hA (fun r15 M16 H locs h hM hS => ?_)
          refine W.widen (k := 0) (n := 0) (by decide) (by decide) ?_
          rw [← hQ]
          exact z_iret hx hb hr hlk hK hM hS h d_X_stored_75
        replace h := h.2 c13
        refine lv_tableOut (tgt := 76) (x := x2) hx hb d_X_stored_23 (by have z9 := z_out 4 (by decide) (x2) (fun k hk => match k, hk with | 0, _ => c10 | 1, _ => c11 | 2, _ => c12 | 3, _ => c13 | (k + 4), hk => absurd hk (by omega)); omega) rfl ?_
        refine lv_iconst (v := (-1 : Int32)) hx hb d_X_stored_76 (by decide) ?_
        refine W.widen (k := 0) (n := 0) (by decide) (by decide) ?_
        rw [← hQ]
        exact z_iret hx hb hr hlk hK hM hS h d_X_stored_77
      · replace h := h.1 c9
        refine lv_iconst (v := (-1 : Int32)) hx hb d_X_stored_20 (by decide) ?_
        refine W.widen (k := 0) (n := 0) (by decide) (by decide) ?_
        rw [← hQ]
        exact z_iret hx hb hr hlk hK hM hS h d_X_stored_21
  exact b_start M s.heap [] ls a0 x1 x2 hl hM hS h
set_option maxHeartbeats 4000000 in
set_option maxRecDepth 100000 in
theorem c_X_entry (l : Launch) (ca : Nat → ClassId) (D : va_G) (M : zM) (sz : Nat) (a0 : Nat) (x1 : Int32) (x2 : Int32) (post : Int32 → zM → Prop) : Met l y_X_entry (Cond.code y_X_entry prog_1_method_18_code 5 (some .int) :: zws) rm_X_entry (zPre ca D zcl (ztys ca) [.ref a0, .int x1, .int x2] M sz (w_X_entry M a0 x1 x2 post)) (va_Qi post (zB ca D zcl (ztys ca) (zA M sz)) (zA M sz)) 0 0 (zA M sz) := by
  refine z_met (cc := prog_1_method_18_code) (maxL := 5) (ret := (some .int)) (plainFor_of_name (by decide)) rfl (by simp [Value.category]) (Nat.le_of_ble_eq_true rfl) ?_
  intro p e s m args below meth c ls A hx hb hr hlk hml hts hown hnm hK hN hl hA0 hM hS hA h
  rw [← hA0]
  have hW : ∀ w ∈ zws, w.before args s = true := fun w hw => hts w (List.mem_cons_of_mem _ hw)
  have hl : zL ls 5 [(0, .ref a0), (1, .int x1), (2, .int x2)] := hl
  generalize hQ : MQ below (va_Qi post (zB ca D zcl (ztys ca) A) A) args s 0 0 A = Q
  have b_start : ∀ (M : zM) (H : Heap) (locs : List Loc) (ls : Array Slot) (a0 : Nat) (x1 : Int32) (x2 : Int32), zL ls 5 [(0, .ref a0), (1, .int x1), (2, .int x2)] → zW ca D zcl A M H → va_S A s.heap H locs → w_X_entry M a0 x1 x2 post → W p l e rm_X_entry s m args below meth c H locs 0 0 Q (F0 m 0 ls []) := by
    intro M H locs ls a0 x1 x2 hl hM hS h
    unfold w_X_entry at h
    refine lv_aload_n hx hb d_X_entry_0 rfl (hl.at 0 rfl) ?_
    obtain ⟨t1, h⟩ := h
    refine z_getR hx hb hW in_8 hown hK hM t1 (by decide) rfl 0 (by decide) rfl (hW _ k_185) rfl d_X_entry_1 ?_
    obtain ⟨b2, hb3, h⟩ := h
    rw [hb3]
    obtain ⟨t4, h⟩ := h
    refine z_getR hx hb hW in_5 hown hK hM t4 (by decide) rfl 1 (by decide) rfl (hW _ k_88) rfl d_X_entry_4 ?_
    obtain ⟨r5, er6⟩ : ∃ z, z = zR M b2 1 := ⟨_, rfl⟩
    replace h := h r5 er6
    rw [← er6]
    refine z_astore_n (x := r5) hx hb d_X_entry_7 rfl hl (by decide) rfl (fun ls hl => ?_)
    have hl : zL ls 5 [(3, va_rf r5), (0, .ref a0), (1, .int x1), (2, .int x2)] := hl
    refine lv_iload_n hx hb d_X_entry_8 rfl (hl.at 2 rfl) ?_
    refine lv_if_lt (tgt := 20) hx hb d_X_entry_9 rfl (fun c7 => ?_) (fun c7 => ?_)
    · replace h := h.1 c7
      refine lv_iconst (v := (-1 : Int32)) hx hb d_X_entry_20 (by decide) ?_
      rw [← hQ]
      exact z_iret hx hb hr hlk hK hM hS h d_X_entry_21
    · replace h := h.2 c7
      refine lv_iload_n hx hb d_X_entry_12 rfl (hl.at 2 rfl) ?_
      refine z_aload_n hx hb d_X_entry_13 rfl (hl.at 0 rfl) ?_
      obtain ⟨b8, hb9, h⟩ := h
      subst hb9
      obtain ⟨t10, h⟩ := h
      refine z_cti (mc := 0) (ms := 0) (va_runV (As := []) (rest := [.int x1]) ⟨hx, hb, hml, hown, hW⟩ (c_T_liveCount l ca D M H.size b8 _) (cw_T_liveCount hW k_565 ⟨by decide, by decide⟩) (zPre_V hK hN hM h t10 (by decide) rfl) rfl rfl hl.1.1 rfl (lv_room (Nat.le_of_ble_eq_true rfl)) d_X_entry_14 ⟨by decide, by decide⟩) hM hS hA (fun r11 M12 H locs h hM hS => ?_)
      refine lv_icmp_lt (tgt := 22) hx hb d_X_entry_17 rfl (fun c13 => ?_) (fun c13 => ?_)
      · replace h := h.1 c13
        refine lv_aload_n hx hb d_X_entry_22 rfl (hl.at 0 rfl) ?_
        obtain ⟨t14, h⟩ := h
        refine z_getI hx hb hW in_7 hown hK hM t14 (by decide) rfl 4 (by decide) rfl (hW _ k_61) rfl d_X_entry_23 ?_
        refine lv_iconst (v := (1 : Int32)) hx hb d_X_entry_26 (by decide) ?_
        refine lv_isub hx hb d_X_entry_27 ?_
        refine lv_iload_n hx hb d_X_entry_28 rfl (hl.at 2 rfl) ?_
        refine lv_isub hx hb d_X_entry_29 ?_
        refine z_istore hx hb d_X_entry_30 hl (by decide) rfl (fun ls hl => ?_)
        have hl : zL ls 5 [(4, .int (((zI M12 b8 4) - (1 : Int32)) - x1)), (3, .ref b8), (0, .ref a0), (1, .int x1), (2, .int x2)] := hl
        refine lv_iload_n hx hb d_X_entry_32 rfl (hl.at 4 rfl) ?_
        by_cases c15 : x2 = (0 : Int32)
        · replace h := h.1 c15
          refine z_tsIn (tgt := 60) (0 : Int32) c15 hx hb d_X_entry_33 (by decide) (by decide) rfl rfl ?_
          refine lv_aload_n hx hb d_X_entry_60 rfl (hl.at 1 rfl) ?_
          refine lv_iload hx hb d_X_entry_61 (hl.at 0 rfl) ?_
          refine z_cti (mc := 0) (ms := 0) (va_runV (As := [.int (((zI M12 b8 4) - (1 : Int32)) - x1)]) (rest := []) ⟨hx, hb, hml, hown, hW⟩ (c_T_nameOf l ca D M12 H.size b8 (((zI M12 b8 4) - (1 : Int32)) - x1) _) (cw_T_nameOf hW k_566 ⟨by decide, by decide⟩) (zPre_V hK hN hM h t14 (by decide) rfl) rfl rfl hl.1.1 rfl (lv_room (Nat.le_of_ble_eq_true rfl)) d_X_entry_63 ⟨by decide, by decide⟩) hM hS hA (fun r16 M17 H locs h hM hS => ?_)
          refine W.widen (k := 0) (n := 0) (by decide) (by decide) ?_
          rw [← hQ]
          exact z_iret hx hb hr hlk hK hM hS h d_X_entry_66
        replace h := h.2 c15
        by_cases c18 : x2 = (1 : Int32)
        · replace h := h.1 c18
          refine z_tsIn (tgt := 67) (1 : Int32) c18 hx hb d_X_entry_33 (by decide) (by decide) rfl rfl ?_
          refine lv_aload_n hx hb d_X_entry_67 rfl (hl.at 1 rfl) ?_
          refine lv_iload hx hb d_X_entry_68 (hl.at 0 rfl) ?_
          refine z_cti (mc := 0) (ms := 0) (va_runV (As := [.int (((zI M12 b8 4) - (1 : Int32)) - x1)]) (rest := []) ⟨hx, hb, hml, hown, hW⟩ (c_T_valueOf l ca D M12 H.size b8 (((zI M12 b8 4) - (1 : Int32)) - x1) _) (cw_T_valueOf hW k_567 ⟨by decide, by decide⟩) (zPre_V hK hN hM h t14 (by decide) rfl) rfl rfl hl.1.1 rfl (lv_room (Nat.le_of_ble_eq_true rfl)) d_X_entry_70 ⟨by decide, by decide⟩) hM hS hA (fun r19 M20 H locs h hM hS => ?_)
          refine W.widen (k := 0) (n := 0) (by decide) (by decide) ?_
          rw [← hQ]
          exact z_iret hx hb hr hlk hK hM hS h d_X_entry_73
        replace h := h.2 c18
        by_cases c21 : x2 = (2 : Int32)
        · replace h := h.1 c21
          refine z_tsIn (tgt := 74) (2 : Int32) c21 hx hb d_X_entry_33 (by decide) (by decide) rfl rfl ?_
          refine lv_aload_n hx hb d_X_entry_74 rfl (hl.at 1 rfl) ?_
          refine lv_iload hx hb d_X_entry_75 (hl.at 0 rfl) ?_
          refine z_cti (mc := 0) (ms := 0) (va_runV (As := [.int (((zI M12 b8 4) - (1 : Int32)) - x1)]) (rest := []) ⟨hx, hb, hml, hown, hW⟩ (c_T_referencesTo l ca D M12 H.size b8 (((zI M12 b8 4) - (1 : Int32)) - x1) _) (cw_T_referencesTo hW k_568 ⟨by decide, by decide⟩) (zPre_V hK hN hM h t14 (by decide) rfl) rfl rfl hl.1.1 rfl (lv_room (Nat.le_of_ble_eq_true rfl)) d_X_entry_77 ⟨by decide, by decide⟩) hM hS hA (fun r22 M23 H locs h hM hS => ?_)
          refine W.widen (k := 0) (n := 0) (by decide) (by decide) ?_
          rw [← hQ]
          exact z_iret hx hb hr hlk hK hM hS h d_X_entry_80
        replace h := h.2 c21
        refine lv_tableOut (tgt := 81) (x := x2) hx hb d_X_entry_33 (by have z9 := z_out 3 (by decide) (x2) (fun k hk => match k, hk with | 0, _ => c15 | 1, _ => c18 | 2, _ => c21 | (k + 3), hk => absurd hk (by omega)); omega) rfl ?_
        refine lv_iconst (v := (-1 : Int32)) hx hb d_X_entry_81 (by decide) ?_
        refine W.widen (k := 0) (n := 0) (by decide) (by decide) ?_
        rw [← hQ]
        exact z_iret hx hb hr hlk hK hM hS h d_X_entry_82
      · replace h := h.2 c13
        refine lv_iconst (v := (-1 : Int32)) hx hb d_X_entry_20 (by decide) ?_
        refine W.widen (k := 0) (n := 0) (by decide) (by decide) ?_
        rw [← hQ]
        exact z_iret hx hb hr hlk hK hM hS h d_X_entry_21
  exact b_start M s.heap [] ls a0 x1 x2 hl hM hS h
set_option maxHeartbeats 4000000 in
set_option maxRecDepth 100000 in
theorem c_X_blockedAnswers (l : Launch) (ca : Nat → ClassId) (D : va_G) (M : zM) (sz : Nat) (a0 : Nat) (post : Int32 → zM → Prop) : Met l y_X_blockedAnswers (Cond.code y_X_blockedAnswers prog_1_method_25_code 3 (some .int) :: zws) rm_X_blockedAnswers (zPre ca D zcl (ztys ca) [.ref a0] M sz (w_X_blockedAnswers M a0 post)) (va_Qi post (zB ca D zcl (ztys ca) (zA M sz)) (zA M sz)) 0 0 (zA M sz) := by
  refine z_met (cc := prog_1_method_25_code) (maxL := 3) (ret := (some .int)) (plainFor_of_name (by decide)) rfl (by simp [Value.category]) (Nat.le_of_ble_eq_true rfl) ?_
  intro p e s m args below meth c ls A hx hb hr hlk hml hts hown hnm hK hN hl hA0 hM hS hA h
  rw [← hA0]
  have hW : ∀ w ∈ zws, w.before args s = true := fun w hw => hts w (List.mem_cons_of_mem _ hw)
  have hl : zL ls 3 [(0, .ref a0)] := hl
  generalize hQ : MQ below (va_Qi post (zB ca D zcl (ztys ca) A) A) args s 0 0 A = Q
  have b_4 : ∀ (n : Nat) (M : zM) (H : Heap) (locs : List Loc) (ls : Array Slot) (a0 : Nat) (x1 : Int32) (x2 : Int32), zL ls 3 [(0, .ref a0), (1, .int x1), (2, .int x2)] → zW ca D zcl A M H → va_S A s.heap H locs → w_X_blockedAnswers_4 post n M a0 x1 x2 → W p l e rm_X_blockedAnswers s m args below meth c H locs 0 0 Q (F0 m 4 ls []) := by
    intro n
    induction n with
    | zero =>
      intro M H locs ls a0 x1 x2 hl hM hS h
      exact False.elim h
    | succ n ih =>
      intro M H locs ls a0 x1 x2 hl hM hS h
      rw [w_X_blockedAnswers_4] at h
      refine lv_iload_n hx hb d_X_blockedAnswers_4 rfl (hl.at 2 rfl) ?_
      refine lv_aload_n hx hb d_X_blockedAnswers_5 rfl (hl.at 0 rfl) ?_
      obtain ⟨t1, h⟩ := h
      refine z_getI hx hb hW in_8 hown hK hM t1 (by decide) rfl 4 (by decide) rfl (hW _ k_189) rfl d_X_blockedAnswers_6 ?_
      refine lv_icmp_ge (tgt := 32) hx hb d_X_blockedAnswers_9 rfl (fun c2 => ?_) (fun c2 => ?_)
      · replace h := h.1 c2
        refine lv_iload_n hx hb d_X_blockedAnswers_32 rfl (hl.at 1 rfl) ?_
        rw [← hQ]
        exact z_iret hx hb hr hlk hK hM hS h d_X_blockedAnswers_33
      · replace h := h.2 c2
        refine lv_aload_n hx hb d_X_blockedAnswers_12 rfl (hl.at 0 rfl) ?_
        refine lv_iload_n hx hb d_X_blockedAnswers_13 rfl (hl.at 2 rfl) ?_
        refine z_ctq (mc := 0) (ms := 0) (va_runV (As := [.int x2]) (rest := []) ⟨hx, hb, hml, hown, hW⟩ (c_X_requestAt l ca D M H.size a0 x2 _) (cw_X_requestAt hW k_312 ⟨by decide, by decide⟩) (zPre_V hK hN hM h t1 (by decide) rfl) rfl rfl hl.1.1 rfl (lv_room (Nat.le_of_ble_eq_true rfl)) d_X_blockedAnswers_14 ⟨by decide, by decide⟩) hM hS hA (fun r3 M4 H locs h hM hS => ?_)
        obtain ⟨b5, hb6, h⟩ := h
        subst hb6
        refine z_cti (mc := 0) (ms := 0) (va_runS (As := [.ref b5]) (rest := []) ⟨hx, hb, hml, hown, hW⟩ (c_X_isBlocked l ca D M4 H.size b5 _) (cw_X_isBlocked hW k_486 ⟨by decide, by decide⟩) (zPre_S hK hN hM h) rfl rfl hl.1.1 rfl (lv_room (Nat.le_of_ble_eq_true rfl)) d_X_blockedAnswers_17 ⟨by decide, by decide⟩) hM hS hA (fun r7 M8 H locs h hM hS => ?_)
        refine lv_if_eq (tgt := 26) hx hb d_X_blockedAnswers_20 rfl (fun c9 => ?_) (fun c9 => ?_)
        · replace h := h.1 c9
          refine z_iinc (k := 2) (v := x2 + (1 : Int32)) hx hb d_X_blockedAnswers_26 hl rfl rfl (by decide) rfl (fun ls hl => ?_)
          have hl : zL ls 3 [(2, .int (x2 + (1 : Int32))), (0, .ref a0), (1, .int x1)] := hl
          refine lv_goto (tgt := 4) hx hb d_X_blockedAnswers_29 rfl ?_
          exact ih M8 H locs ls a0 x1 (x2 + (1 : Int32)) (hl.sub [1, 2, 0] rfl) hM hS h
        · replace h := h.2 c9
          refine z_iinc (k := 1) (v := x1 + (1 : Int32)) hx hb d_X_blockedAnswers_23 hl rfl rfl (by decide) rfl (fun ls hl => ?_)
          have hl : zL ls 3 [(1, .int (x1 + (1 : Int32))), (0, .ref a0), (2, .int x2)] := hl
          refine z_iinc (k := 2) (v := x2 + (1 : Int32)) hx hb d_X_blockedAnswers_26 hl rfl rfl (by decide) rfl (fun ls hl => ?_)
          have hl : zL ls 3 [(2, .int (x2 + (1 : Int32))), (1, .int (x1 + (1 : Int32))), (0, .ref a0)] := hl
          refine lv_goto (tgt := 4) hx hb d_X_blockedAnswers_29 rfl ?_
          exact ih M8 H locs ls a0 (x1 + (1 : Int32)) (x2 + (1 : Int32)) (hl.sub [2, 1, 0] rfl) hM hS h
  have b_start : ∀ (M : zM) (H : Heap) (locs : List Loc) (ls : Array Slot) (a0 : Nat), zL ls 3 [(0, .ref a0)] → zW ca D zcl A M H → va_S A s.heap H locs → w_X_blockedAnswers M a0 post → W p l e rm_X_blockedAnswers s m args below meth c H locs 0 0 Q (F0 m 0 ls []) := by
    intro M H locs ls a0 hl hM hS h
    unfold w_X_blockedAnswers at h
    refine lv_iconst (v := (0 : Int32)) hx hb d_X_blockedAnswers_0 (by decide) ?_
    refine z_istore_n hx hb d_X_blockedAnswers_1 rfl hl (by decide) rfl (fun ls hl => ?_)
    have hl : zL ls 3 [(1, .int (0 : Int32)), (0, .ref a0)] := hl
    refine lv_iconst (v := (0 : Int32)) hx hb d_X_blockedAnswers_2 (by decide) ?_
    refine z_istore_n hx hb d_X_blockedAnswers_3 rfl hl (by decide) rfl (fun ls hl => ?_)
    have hl : zL ls 3 [(2, .int (0 : Int32)), (1, .int (0 : Int32)), (0, .ref a0)] := hl
    obtain ⟨n10, h⟩ := h
    exact b_4 n10 M H locs ls a0 (0 : Int32) (0 : Int32) (hl.sub [2, 1, 0] rfl) hM hS h
  exact b_start M s.heap [] ls a0 hl hM hS h
set_option maxHeartbeats 4000000 in
set_option maxRecDepth 100000 in
theorem c_X_count (l : Launch) (ca : Nat → ClassId) (D : va_G) (M : zM) (sz : Nat) (a0 : Nat) (x1 : Int32) (post : Int32 → zM → Prop) : Met l y_X_count (Cond.code y_X_count prog_1_method_19_code 3 (some .int) :: zws) rm_X_count (zPre ca D zcl (ztys ca) [.ref a0, .int x1] M sz (w_X_count M a0 x1 post)) (va_Qi post (zB ca D zcl (ztys ca) (zA M sz)) (zA M sz)) 0 0 (zA M sz) := by
  refine z_met (cc := prog_1_method_19_code) (maxL := 3) (ret := (some .int)) (plainFor_of_name (by decide)) rfl (by simp [Value.category]) (Nat.le_of_ble_eq_true rfl) ?_
  intro p e s m args below meth c ls A hx hb hr hlk hml hts hown hnm hK hN hl hA0 hM hS hA h
  rw [← hA0]
  have hW : ∀ w ∈ zws, w.before args s = true := fun w hw => hts w (List.mem_cons_of_mem _ hw)
  have hl : zL ls 3 [(0, .ref a0), (1, .int x1)] := hl
  generalize hQ : MQ below (va_Qi post (zB ca D zcl (ztys ca) A) A) args s 0 0 A = Q
  have b_start : ∀ (M : zM) (H : Heap) (locs : List Loc) (ls : Array Slot) (a0 : Nat) (x1 : Int32), zL ls 3 [(0, .ref a0), (1, .int x1)] → zW ca D zcl A M H → va_S A s.heap H locs → w_X_count M a0 x1 post → W p l e rm_X_count s m args below meth c H locs 0 0 Q (F0 m 0 ls []) := by
    intro M H locs ls a0 x1 hl hM hS h
    unfold w_X_count at h
    refine lv_aload_n hx hb d_X_count_0 rfl (hl.at 0 rfl) ?_
    obtain ⟨t1, h⟩ := h
    refine z_getR hx hb hW in_8 hown hK hM t1 (by decide) rfl 0 (by decide) rfl (hW _ k_185) rfl d_X_count_1 ?_
    obtain ⟨b2, hb3, h⟩ := h
    rw [hb3]
    obtain ⟨t4, h⟩ := h
    refine z_getR hx hb hW in_5 hown hK hM t4 (by decide) rfl 1 (by decide) rfl (hW _ k_88) rfl d_X_count_4 ?_
    obtain ⟨r5, er6⟩ : ∃ z, z = zR M b2 1 := ⟨_, rfl⟩
    replace h := h r5 er6
    rw [← er6]
    refine z_astore_n (x := r5) hx hb d_X_count_7 rfl hl (by decide) rfl (fun ls hl => ?_)
    have hl : zL ls 3 [(2, va_rf r5), (0, .ref a0), (1, .int x1)] := hl
    refine lv_iload_n hx hb d_X_count_8 rfl (hl.at 2 rfl) ?_
    by_cases c7 : x1 = (0 : Int32)
    · replace h := h.1 c7
      refine z_tsIn (tgt := 60) (0 : Int32) c7 hx hb d_X_count_9 (by decide) (by decide) rfl rfl ?_
      refine z_aload_n hx hb d_X_count_60 rfl (hl.at 0 rfl) ?_
      obtain ⟨b8, hb9, h⟩ := h
      subst hb9
      obtain ⟨t10, h⟩ := h
      refine z_getI hx hb hW in_7 hown hK hM t10 (by decide) rfl 4 (by decide) rfl (hW _ k_61) rfl d_X_count_61 ?_
      rw [← hQ]
      exact z_iret hx hb hr hlk hK hM hS h d_X_count_64
    replace h := h.2 c7
    by_cases c11 : x1 = (1 : Int32)
    · replace h := h.1 c11
      refine z_tsIn (tgt := 65) (1 : Int32) c11 hx hb d_X_count_9 (by decide) (by decide) rfl rfl ?_
      refine z_aload_n hx hb d_X_count_65 rfl (hl.at 0 rfl) ?_
      obtain ⟨b12, hb13, h⟩ := h
      subst hb13
      obtain ⟨t14, h⟩ := h
      refine z_getI hx hb hW in_7 hown hK hM t14 (by decide) rfl 5 (by decide) rfl (hW _ k_63) rfl d_X_count_66 ?_
      rw [← hQ]
      exact z_iret hx hb hr hlk hK hM hS h d_X_count_69
    replace h := h.2 c11
    by_cases c15 : x1 = (2 : Int32)
    · replace h := h.1 c15
      refine z_tsIn (tgt := 70) (2 : Int32) c15 hx hb d_X_count_9 (by decide) (by decide) rfl rfl ?_
      refine lv_aload_n hx hb d_X_count_70 rfl (hl.at 1 rfl) ?_
      refine z_getR hx hb hW in_8 hown hK hM t1 (by decide) rfl 1 (by decide) rfl (hW _ k_186) rfl d_X_count_71 ?_
      obtain ⟨b16, hb17, h⟩ := h
      rw [hb17]
      obtain ⟨t18, h⟩ := h
      refine z_getI hx hb hW in_1 hown hK hM t18 (by decide) rfl 1 (by decide) rfl (hW _ k_150) rfl d_X_count_74 ?_
      rw [← hQ]
      exact z_iret hx hb hr hlk hK hM hS h d_X_count_77
    replace h := h.2 c15
    by_cases c19 : x1 = (3 : Int32)
    · replace h := h.1 c19
      refine z_tsIn (tgt := 78) (3 : Int32) c19 hx hb d_X_count_9 (by decide) (by decide) rfl rfl ?_
      refine lv_aload_n hx hb d_X_count_78 rfl (hl.at 1 rfl) ?_
      refine z_getR hx hb hW in_8 hown hK hM t1 (by decide) rfl 1 (by decide) rfl (hW _ k_186) rfl d_X_count_79 ?_
      obtain ⟨b20, hb21, h⟩ := h
      rw [hb21]
      obtain ⟨t22, h⟩ := h
      refine z_getI hx hb hW in_1 hown hK hM t22 (by decide) rfl 2 (by decide) rfl (hW _ k_152) rfl d_X_count_82 ?_
      rw [← hQ]
      exact z_iret hx hb hr hlk hK hM hS h d_X_count_85
    replace h := h.2 c19
    by_cases c23 : x1 = (4 : Int32)
    · replace h := h.1 c23
      refine z_tsIn (tgt := 86) (4 : Int32) c23 hx hb d_X_count_9 (by decide) (by decide) rfl rfl ?_
      refine z_aload_n hx hb d_X_count_86 rfl (hl.at 0 rfl) ?_
      obtain ⟨b24, hb25, h⟩ := h
      subst hb25
      obtain ⟨t26, h⟩ := h
      refine z_getI hx hb hW in_7 hown hK hM t26 (by decide) rfl 6 (by decide) rfl (hW _ k_65) rfl d_X_count_87 ?_
      rw [← hQ]
      exact z_iret hx hb hr hlk hK hM hS h d_X_count_90
    replace h := h.2 c23
    by_cases c27 : x1 = (5 : Int32)
    · replace h := h.1 c27
      refine z_tsIn (tgt := 91) (5 : Int32) c27 hx hb d_X_count_9 (by decide) (by decide) rfl rfl ?_
      refine z_aload_n hx hb d_X_count_91 rfl (hl.at 0 rfl) ?_
      obtain ⟨b28, hb29, h⟩ := h
      subst hb29
      obtain ⟨t30, h⟩ := h
      refine z_getI hx hb hW in_7 hown hK hM t30 (by decide) rfl 7 (by decide) rfl (hW _ k_67) rfl d_X_count_92 ?_
      rw [← hQ]
      exact z_iret hx hb hr hlk hK hM hS h d_X_count_95
    replace h := h.2 c27
    by_cases c31 : x1 = (6 : Int32)
    · replace h := h.1 c31
      refine z_tsIn (tgt := 96) (6 : Int32) c31 hx hb d_X_count_9 (by decide) (by decide) rfl rfl ?_
      refine z_aload_n hx hb d_X_count_96 rfl (hl.at 0 rfl) ?_
      refine lv_iconst (v := (0 : Int32)) hx hb d_X_count_97 (by decide) ?_
      obtain ⟨b32, hb33, h⟩ := h
      subst hb33
      obtain ⟨t34, h⟩ := h
      refine z_cti (mc := 0) (ms := 0) (va_runV (As := [.int (0 : Int32)]) (rest := []) ⟨hx, hb, hml, hown, hW⟩ (c_T_outstandingNeeding l ca D M H.size b32 (0 : Int32) _) (cw_T_outstandingNeeding hW k_573 ⟨by decide, by decide⟩) (zPre_V hK hN hM h t34 (by decide) rfl) rfl rfl hl.1.1 rfl (lv_room (Nat.le_of_ble_eq_true rfl)) d_X_count_98 ⟨by decide, by decide⟩) hM hS hA (fun r35 M36 H locs h hM hS => ?_)
      refine W.widen (k := 0) (n := 0) (by decide) (by decide) ?_
      rw [← hQ]
      exact z_iret hx hb hr hlk hK hM hS h d_X_count_101
    replace h := h.2 c31
    by_cases c37 : x1 = (7 : Int32)
    · replace h := h.1 c37
      refine z_tsIn (tgt := 102) (7 : Int32) c37 hx hb d_X_count_9 (by decide) (by decide) rfl rfl ?_
      refine z_aload_n hx hb d_X_count_102 rfl (hl.at 0 rfl) ?_
      obtain ⟨b38, hb39, h⟩ := h
      subst hb39
      obtain ⟨t40, h⟩ := h
      refine z_cti (mc := 0) (ms := 0) (va_runV (As := []) (rest := []) ⟨hx, hb, hml, hown, hW⟩ (c_T_atRisk l ca D M H.size b38 _) (cw_T_atRisk hW k_574 ⟨by decide, by decide⟩) (zPre_V hK hN hM h t40 (by decide) rfl) rfl rfl hl.1.1 rfl (lv_room (Nat.le_of_ble_eq_true rfl)) d_X_count_103 ⟨by decide, by decide⟩) hM hS hA (fun r41 M42 H locs h hM hS => ?_)
      refine W.widen (k := 0) (n := 0) (by decide) (by decide) ?_
      rw [← hQ]
      exact z_iret hx hb hr hlk hK hM hS h d_X_count_106
    replace h := h.2 c37
    by_cases c43 : x1 = (8 : Int32)
    · replace h := h.1 c43
      refine z_tsIn (tgt := 107) (8 : Int32) c43 hx hb d_X_count_9 (by decide) (by decide) rfl rfl ?_
      refine lv_aload_n hx hb d_X_count_107 rfl (hl.at 1 rfl) ?_
      refine z_cti (mc := 0) (ms := 0) (va_runV (As := []) (rest := []) ⟨hx, hb, hml, hown, hW⟩ (c_X_blockedAnswers l ca D M H.size a0 _) (cw_X_blockedAnswers hW k_575 ⟨by decide, by decide⟩) (zPre_V hK hN hM h t1 (by decide) rfl) rfl rfl hl.1.1 rfl (lv_room (Nat.le_of_ble_eq_true rfl)) d_X_count_108 ⟨by decide, by decide⟩) hM hS hA (fun r44 M45 H locs h hM hS => ?_)
      refine W.widen (k := 0) (n := 0) (by decide) (by decide) ?_
      rw [← hQ]
      exact z_iret hx hb hr hlk hK hM hS h d_X_count_111
    replace h := h.2 c43
    refine lv_tableOut (tgt := 112) (x := x1) hx hb d_X_count_9 (by have z9 := z_out 9 (by decide) (x1) (fun k hk => match k, hk with | 0, _ => c7 | 1, _ => c11 | 2, _ => c15 | 3, _ => c19 | 4, _ => c23 | 5, _ => c27 | 6, _ => c31 | 7, _ => c37 | 8, _ => c43 | (k + 9), hk => absurd hk (by omega)); omega) rfl ?_
    refine lv_iconst (v := (-1 : Int32)) hx hb d_X_count_112 (by decide) ?_
    rw [← hQ]
    exact z_iret hx hb hr hlk hK hM hS h d_X_count_113
  exact b_start M s.heap [] ls a0 x1 hl hM hS h
set_option maxHeartbeats 4000000 in
set_option maxRecDepth 100000 in
theorem c_Y_init (l : Launch) (ca : Nat → ClassId) (D : va_G) (M : zM) (sz : Nat) (a0 : Nat) (post : zM → Prop) : Met l y_Y_init (Cond.code y_Y_init prog_11_method_1_code 2 none :: zws) rm_Y_init (zPre ca D zcl (ztys ca) [.ref a0] M sz (w_Y_init M a0 post)) (va_Qv post (zB ca D zcl (ztys ca) (zA M sz)) (zA M sz)) 27 2518 (zA M sz) := by
  refine z_met (cc := prog_11_method_1_code) (maxL := 2) (ret := none) (plainFor_of_name (by decide)) rfl (by simp [Value.category]) (Nat.le_of_ble_eq_true rfl) ?_
  intro p e s m args below meth c ls A hx hb hr hlk hml hts hown hnm hK hN hl hA0 hM hS hA h
  rw [← hA0]
  have hW : ∀ w ∈ zws, w.before args s = true := fun w hw => hts w (List.mem_cons_of_mem _ hw)
  have hl : zL ls 2 [(0, .ref a0)] := hl
  generalize hQ : MQ below (va_Qv post (zB ca D zcl (ztys ca) A) A) args s 27 2518 A = Q
  have b_249 : ∀ (n : Nat) (M : zM) (H : Heap) (locs : List Loc) (ls : Array Slot) (a0 : Nat) (x1 : Int32), zL ls 2 [(0, .ref a0), (1, .int x1)] → zW ca D zcl A M H → va_S A s.heap H locs → w_Y_init_249 post n M a0 x1 → W p l e rm_Y_init s m args below meth c H locs 27 2518 Q (F0 m 249 ls []) := by
    intro n
    induction n with
    | zero =>
      intro M H locs ls a0 x1 hl hM hS h
      exact False.elim h
    | succ n ih =>
      intro M H locs ls a0 x1 hl hM hS h
      rw [w_Y_init_249] at h
      refine lv_iload_n hx hb d_Y_init_249 rfl (hl.at 1 rfl) ?_
      refine lv_bipush (v := (6 : Int32)) hx hb d_Y_init_250 (by decide) ?_
      refine lv_icmp_ge (tgt := 268) hx hb d_Y_init_252 rfl (fun c218 => ?_) (fun c218 => ?_)
      · replace h := h.1 c218
        rw [← hQ]
        exact z_vret hx hb hr hlk hK hM hS h d_Y_init_268
      · replace h := h.2 c218
        refine lv_aload_n hx hb d_Y_init_255 rfl (hl.at 0 rfl) ?_
        obtain ⟨t219, h⟩ := h
        refine z_getR hx hb hW in_9 hown hK hM t219 (by decide) rfl 21 (by decide) rfl (hW _ k_606) rfl d_Y_init_256 ?_
        refine lv_iload_n hx hb d_Y_init_259 rfl (hl.at 1 rfl) ?_
        refine lv_iconst (v := (-1 : Int32)) hx hb d_Y_init_260 (by decide) ?_
        obtain ⟨b220, hb221, h⟩ := h
        rw [hb221]
        obtain ⟨n223, t222, h⟩ := h
        obtain ⟨i224, h⟩ := h
        refine z_iast hx hb hK hM hS t222 0 rfl i224 d_Y_init_261 (fun H locs hM hS => ?_)
        obtain ⟨M225, e226⟩ : ∃ z, z = zwI M b220 x1.toNatClampNeg (-1 : Int32) := ⟨_, rfl⟩
        replace h := h M225 e226
        rw [← e226] at hM
        refine z_iinc (k := 1) (v := x1 + (1 : Int32)) hx hb d_Y_init_262 hl rfl rfl (by decide) rfl (fun ls hl => ?_)
        have hl : zL ls 2 [(1, .int (x1 + (1 : Int32))), (0, .ref a0)] := hl
        refine lv_goto (tgt := 249) hx hb d_Y_init_265 rfl ?_
        exact ih M225 H locs ls a0 (x1 + (1 : Int32)) (hl.sub [1, 0] rfl) hM hS h
  have b_227 : ∀ (n : Nat) (M : zM) (H : Heap) (locs : List Loc) (ls : Array Slot) (a0 : Nat) (x1 : Int32), zL ls 2 [(0, .ref a0), (1, .int x1)] → zW ca D zcl A M H → va_S A s.heap H locs → w_Y_init_227 post n M a0 x1 → W p l e rm_Y_init s m args below meth c H locs 27 2518 Q (F0 m 227 ls []) := by
    intro n
    induction n with
    | zero =>
      intro M H locs ls a0 x1 hl hM hS h
      exact False.elim h
    | succ n ih =>
      intro M H locs ls a0 x1 hl hM hS h
      rw [w_Y_init_227] at h
      refine lv_iload_n hx hb d_Y_init_227 rfl (hl.at 1 rfl) ?_
      refine lv_sipush (v := (180 : Int32)) hx hb d_Y_init_228 (by decide) ?_
      refine lv_icmp_ge (tgt := 247) hx hb d_Y_init_231 rfl (fun c217 => ?_) (fun c217 => ?_)
      · replace h := h.1 c217
        refine lv_iconst (v := (0 : Int32)) hx hb d_Y_init_247 (by decide) ?_
        refine z_istore_n hx hb d_Y_init_248 rfl hl (by decide) rfl (fun ls hl => ?_)
        have hl : zL ls 2 [(1, .int (0 : Int32)), (0, .ref a0)] := hl
        obtain ⟨n227, h⟩ := h
        exact b_249 n227 M H locs ls a0 (0 : Int32) (hl.sub [1, 0] rfl) hM hS h
      · replace h := h.2 c217
        refine lv_aload_n hx hb d_Y_init_234 rfl (hl.at 0 rfl) ?_
        obtain ⟨t228, h⟩ := h
        refine z_getR hx hb hW in_9 hown hK hM t228 (by decide) rfl 20 (by decide) rfl (hW _ k_605) rfl d_Y_init_235 ?_
        refine lv_iload_n hx hb d_Y_init_238 rfl (hl.at 1 rfl) ?_
        refine lv_iconst (v := (-1 : Int32)) hx hb d_Y_init_239 (by decide) ?_
        obtain ⟨b229, hb230, h⟩ := h
        rw [hb230]
        obtain ⟨n232, t231, h⟩ := h
        obtain ⟨i233, h⟩ := h
        refine z_iast hx hb hK hM hS t231 0 rfl i233 d_Y_init_240 (fun H locs hM hS => ?_)
        obtain ⟨M234, e235⟩ : ∃ z, z = zwI M b229 x1.toNatClampNeg (-1 : Int32) := ⟨_, rfl⟩
        replace h := h M234 e235
        rw [← e235] at hM
        refine z_iinc (k := 1) (v := x1 + (1 : Int32)) hx hb d_Y_init_241 hl rfl rfl (by decide) rfl (fun ls hl => ?_)
        have hl : zL ls 2 [(1, .int (x1 + (1 : Int32))), (0, .ref a0)] := hl
        refine lv_goto (tgt := 227) hx hb d_Y_init_244 rfl ?_
        exact ih M234 H locs ls a0 (x1 + (1 : Int32)) (hl.sub [1, 0] rfl) hM hS h
  have b_start : ∀ (M : zM) (H : Heap) (locs : List Loc) (ls : Array Slot) (a0 : Nat), zL ls 2 [(0, .ref a0)] → zW ca D zcl A M H → va_S A s.heap H locs → w_Y_init M a0 post → W p l e rm_Y_init s m args below meth c H locs 0 0 Q (F0 m 0 ls []) := by
    intro M H locs ls a0 hl hM hS h
    unfold w_Y_init at h
    refine lv_aload_n hx hb d_Y_init_0 rfl (hl.at 0 rfl) ?_
    refine W.objInit hx hb hown (hW _ k_584) (hW _ k_18) (hW _ k_19) rfl (by rw [hml]; exact hl.1.1) rfl d_Y_init_1 (Nat.le_of_ble_eq_true rfl) (Nat.le_of_ble_eq_true rfl) ?_
    refine W.eq (g2 := F0 m 4 ls []) rfl ?_
    refine lv_aload_n hx hb d_Y_init_4 rfl (hl.at 0 rfl) ?_
    refine lv_bipush (v := (6 : Int32)) hx hb d_Y_init_5 (by decide) ?_
    refine z_newP (atype := .boolean) hx hb (hW _ k_706) rfl hK hM hS hA (by decide) 1 rfl (by decide) (N' := 6) (by decide) (by decide) (by decide) (by decide) d_Y_init_7 (fun q1 H hq2 hM hS => ?_)
    replace h := h q1 hq2
    obtain ⟨M3, e4⟩ : ∃ z, z = znw M q1 (21, 6) := ⟨_, rfl⟩
    replace h := h M3 e4
    rw [← e4] at hM
    have t5 : zT M3 q1 = some (21, 6) := by rw [e4, zT_nw, if_pos rfl]
    obtain ⟨t6, h⟩ := h
    refine z_putR (v := some q1) hx hb hW in_9 ty_9 tyok_9 nm_9 hown hK hM hS t6 (by decide) rfl 0 (by decide) rfl (hW _ k_585) rfl (Or.inr ⟨rfl, hnm, rfl⟩) rfl rfl d_Y_init_9 (fun H locs hM hS => ?_)
    obtain ⟨M7, e8⟩ : ∃ z, z = zwR M3 a0 0 (some q1) := ⟨_, rfl⟩
    replace h := h M7 e8
    rw [← e8] at hM
    refine lv_aload_n hx hb d_Y_init_12 rfl (hl.at 0 rfl) ?_
    refine lv_bipush (v := (6 : Int32)) hx hb d_Y_init_13 (by decide) ?_
    refine z_newP (atype := .int) hx hb (hW _ k_85) rfl hK hM hS hA (by decide) 0 rfl (by decide) (N' := 6) (by decide) (by decide) (by decide) (by decide) d_Y_init_15 (fun q9 H hq10 hM hS => ?_)
    replace h := h q9 hq10
    obtain ⟨M11, e12⟩ : ∃ z, z = znw M7 q9 (20, 6) := ⟨_, rfl⟩
    replace h := h M11 e12
    rw [← e12] at hM
    have t13 : zT M11 q9 = some (20, 6) := by rw [e12, zT_nw, if_pos rfl]
    obtain ⟨t14, h⟩ := h
    refine z_putR (v := some q9) hx hb hW in_9 ty_9 tyok_9 nm_9 hown hK hM hS t14 (by decide) rfl 1 (by decide) rfl (hW _ k_586) rfl (Or.inr ⟨rfl, hnm, rfl⟩) rfl rfl d_Y_init_17 (fun H locs hM hS => ?_)
    obtain ⟨M15, e16⟩ : ∃ z, z = zwR M11 a0 1 (some q9) := ⟨_, rfl⟩
    replace h := h M15 e16
    rw [← e16] at hM
    refine lv_aload_n hx hb d_Y_init_20 rfl (hl.at 0 rfl) ?_
    refine lv_bipush (v := (6 : Int32)) hx hb d_Y_init_21 (by decide) ?_
    refine z_newP (atype := .int) hx hb (hW _ k_85) rfl hK hM hS hA (by decide) 0 rfl (by decide) (N' := 6) (by decide) (by decide) (by decide) (by decide) d_Y_init_23 (fun q17 H hq18 hM hS => ?_)
    replace h := h q17 hq18
    obtain ⟨M19, e20⟩ : ∃ z, z = znw M15 q17 (20, 6) := ⟨_, rfl⟩
    replace h := h M19 e20
    rw [← e20] at hM
    have t21 : zT M19 q17 = some (20, 6) := by rw [e20, zT_nw, if_pos rfl]
    obtain ⟨t22, h⟩ := h
    refine z_putR (v := some q17) hx hb hW in_9 ty_9 tyok_9 nm_9 hown hK hM hS t22 (by decide) rfl 2 (by decide) rfl (hW _ k_587) rfl (Or.inr ⟨rfl, hnm, rfl⟩) rfl rfl d_Y_init_25 (fun H locs hM hS => ?_)
    obtain ⟨M23, e24⟩ : ∃ z, z = zwR M19 a0 2 (some q17) := ⟨_, rfl⟩
    replace h := h M23 e24
    rw [← e24] at hM
    refine lv_aload_n hx hb d_Y_init_28 rfl (hl.at 0 rfl) ?_
    refine lv_bipush (v := (6 : Int32)) hx hb d_Y_init_29 (by decide) ?_
    refine z_newP (atype := .int) hx hb (hW _ k_85) rfl hK hM hS hA (by decide) 0 rfl (by decide) (N' := 6) (by decide) (by decide) (by decide) (by decide) d_Y_init_31 (fun q25 H hq26 hM hS => ?_)
    replace h := h q25 hq26
    obtain ⟨M27, e28⟩ : ∃ z, z = znw M23 q25 (20, 6) := ⟨_, rfl⟩
    replace h := h M27 e28
    rw [← e28] at hM
    have t29 : zT M27 q25 = some (20, 6) := by rw [e28, zT_nw, if_pos rfl]
    obtain ⟨t30, h⟩ := h
    refine z_putR (v := some q25) hx hb hW in_9 ty_9 tyok_9 nm_9 hown hK hM hS t30 (by decide) rfl 3 (by decide) rfl (hW _ k_588) rfl (Or.inr ⟨rfl, hnm, rfl⟩) rfl rfl d_Y_init_33 (fun H locs hM hS => ?_)
    obtain ⟨M31, e32⟩ : ∃ z, z = zwR M27 a0 3 (some q25) := ⟨_, rfl⟩
    replace h := h M31 e32
    rw [← e32] at hM
    refine lv_aload_n hx hb d_Y_init_36 rfl (hl.at 0 rfl) ?_
    refine lv_bipush (v := (60 : Int32)) hx hb d_Y_init_37 (by decide) ?_
    refine z_newP (atype := .boolean) hx hb (hW _ k_706) rfl hK hM hS hA (by decide) 1 rfl (by decide) (N' := 60) (by decide) (by decide) (by decide) (by decide) d_Y_init_39 (fun q33 H hq34 hM hS => ?_)
    replace h := h q33 hq34
    obtain ⟨M35, e36⟩ : ∃ z, z = znw M31 q33 (21, 60) := ⟨_, rfl⟩
    replace h := h M35 e36
    rw [← e36] at hM
    have t37 : zT M35 q33 = some (21, 60) := by rw [e36, zT_nw, if_pos rfl]
    obtain ⟨t38, h⟩ := h
    refine z_putR (v := some q33) hx hb hW in_9 ty_9 tyok_9 nm_9 hown hK hM hS t38 (by decide) rfl 7 (by decide) rfl (hW _ k_592) rfl (Or.inr ⟨rfl, hnm, rfl⟩) rfl rfl d_Y_init_41 (fun H locs hM hS => ?_)
    obtain ⟨M39, e40⟩ : ∃ z, z = zwR M35 a0 7 (some q33) := ⟨_, rfl⟩
    replace h := h M39 e40
    rw [← e40] at hM
    refine lv_aload_n hx hb d_Y_init_44 rfl (hl.at 0 rfl) ?_
    refine lv_bipush (v := (60 : Int32)) hx hb d_Y_init_45 (by decide) ?_
    refine z_newP (atype := .int) hx hb (hW _ k_85) rfl hK hM hS hA (by decide) 0 rfl (by decide) (N' := 60) (by decide) (by decide) (by decide) (by decide) d_Y_init_47 (fun q41 H hq42 hM hS => ?_)
    replace h := h q41 hq42
    obtain ⟨M43, e44⟩ : ∃ z, z = znw M39 q41 (20, 60) := ⟨_, rfl⟩
    replace h := h M43 e44
    rw [← e44] at hM
    have t45 : zT M43 q41 = some (20, 60) := by rw [e44, zT_nw, if_pos rfl]
    obtain ⟨t46, h⟩ := h
    refine z_putR (v := some q41) hx hb hW in_9 ty_9 tyok_9 nm_9 hown hK hM hS t46 (by decide) rfl 8 (by decide) rfl (hW _ k_593) rfl (Or.inr ⟨rfl, hnm, rfl⟩) rfl rfl d_Y_init_49 (fun H locs hM hS => ?_)
    obtain ⟨M47, e48⟩ : ∃ z, z = zwR M43 a0 8 (some q41) := ⟨_, rfl⟩
    replace h := h M47 e48
    rw [← e48] at hM
    refine lv_aload_n hx hb d_Y_init_52 rfl (hl.at 0 rfl) ?_
    refine lv_bipush (v := (60 : Int32)) hx hb d_Y_init_53 (by decide) ?_
    refine z_newP (atype := .int) hx hb (hW _ k_85) rfl hK hM hS hA (by decide) 0 rfl (by decide) (N' := 60) (by decide) (by decide) (by decide) (by decide) d_Y_init_55 (fun q49 H hq50 hM hS => ?_)
    replace h := h q49 hq50
    obtain ⟨M51, e52⟩ : ∃ z, z = znw M47 q49 (20, 60) := ⟨_, rfl⟩
    replace h := h M51 e52
    rw [← e52] at hM
    have t53 : zT M51 q49 = some (20, 60) := by rw [e52, zT_nw, if_pos rfl]
    obtain ⟨t54, h⟩ := h
    refine z_putR (v := some q49) hx hb hW in_9 ty_9 tyok_9 nm_9 hown hK hM hS t54 (by decide) rfl 9 (by decide) rfl (hW _ k_594) rfl (Or.inr ⟨rfl, hnm, rfl⟩) rfl rfl d_Y_init_57 (fun H locs hM hS => ?_)
    obtain ⟨M55, e56⟩ : ∃ z, z = zwR M51 a0 9 (some q49) := ⟨_, rfl⟩
    replace h := h M55 e56
    rw [← e56] at hM
    refine lv_aload_n hx hb d_Y_init_60 rfl (hl.at 0 rfl) ?_
    refine lv_bipush (v := (60 : Int32)) hx hb d_Y_init_61 (by decide) ?_
    refine z_newP (atype := .int) hx hb (hW _ k_85) rfl hK hM hS hA (by decide) 0 rfl (by decide) (N' := 60) (by decide) (by decide) (by decide) (by decide) d_Y_init_63 (fun q57 H hq58 hM hS => ?_)
    replace h := h q57 hq58
    obtain ⟨M59, e60⟩ : ∃ z, z = znw M55 q57 (20, 60) := ⟨_, rfl⟩
    replace h := h M59 e60
    rw [← e60] at hM
    have t61 : zT M59 q57 = some (20, 60) := by rw [e60, zT_nw, if_pos rfl]
    obtain ⟨t62, h⟩ := h
    refine z_putR (v := some q57) hx hb hW in_9 ty_9 tyok_9 nm_9 hown hK hM hS t62 (by decide) rfl 10 (by decide) rfl (hW _ k_595) rfl (Or.inr ⟨rfl, hnm, rfl⟩) rfl rfl d_Y_init_65 (fun H locs hM hS => ?_)
    obtain ⟨M63, e64⟩ : ∃ z, z = zwR M59 a0 10 (some q57) := ⟨_, rfl⟩
    replace h := h M63 e64
    rw [← e64] at hM
    refine lv_aload_n hx hb d_Y_init_68 rfl (hl.at 0 rfl) ?_
    refine lv_bipush (v := (60 : Int32)) hx hb d_Y_init_69 (by decide) ?_
    refine z_newP (atype := .int) hx hb (hW _ k_85) rfl hK hM hS hA (by decide) 0 rfl (by decide) (N' := 60) (by decide) (by decide) (by decide) (by decide) d_Y_init_71 (fun q65 H hq66 hM hS => ?_)
    replace h := h q65 hq66
    obtain ⟨M67, e68⟩ : ∃ z, z = znw M63 q65 (20, 60) := ⟨_, rfl⟩
    replace h := h M67 e68
    rw [← e68] at hM
    have t69 : zT M67 q65 = some (20, 60) := by rw [e68, zT_nw, if_pos rfl]
    obtain ⟨t70, h⟩ := h
    refine z_putR (v := some q65) hx hb hW in_9 ty_9 tyok_9 nm_9 hown hK hM hS t70 (by decide) rfl 11 (by decide) rfl (hW _ k_596) rfl (Or.inr ⟨rfl, hnm, rfl⟩) rfl rfl d_Y_init_73 (fun H locs hM hS => ?_)
    obtain ⟨M71, e72⟩ : ∃ z, z = zwR M67 a0 11 (some q65) := ⟨_, rfl⟩
    replace h := h M71 e72
    rw [← e72] at hM
    refine lv_aload_n hx hb d_Y_init_76 rfl (hl.at 0 rfl) ?_
    refine lv_bipush (v := (60 : Int32)) hx hb d_Y_init_77 (by decide) ?_
    refine z_newP (atype := .int) hx hb (hW _ k_85) rfl hK hM hS hA (by decide) 0 rfl (by decide) (N' := 60) (by decide) (by decide) (by decide) (by decide) d_Y_init_79 (fun q73 H hq74 hM hS => ?_)
    replace h := h q73 hq74
    obtain ⟨M75, e76⟩ : ∃ z, z = znw M71 q73 (20, 60) := ⟨_, rfl⟩
    replace h := h M75 e76
    rw [← e76] at hM
    have t77 : zT M75 q73 = some (20, 60) := by rw [e76, zT_nw, if_pos rfl]
    obtain ⟨t78, h⟩ := h
    refine z_putR (v := some q73) hx hb hW in_9 ty_9 tyok_9 nm_9 hown hK hM hS t78 (by decide) rfl 12 (by decide) rfl (hW _ k_597) rfl (Or.inr ⟨rfl, hnm, rfl⟩) rfl rfl d_Y_init_81 (fun H locs hM hS => ?_)
    obtain ⟨M79, e80⟩ : ∃ z, z = zwR M75 a0 12 (some q73) := ⟨_, rfl⟩
    replace h := h M79 e80
    rw [← e80] at hM
    refine lv_aload_n hx hb d_Y_init_84 rfl (hl.at 0 rfl) ?_
    refine lv_bipush (v := (60 : Int32)) hx hb d_Y_init_85 (by decide) ?_
    refine z_newP (atype := .int) hx hb (hW _ k_85) rfl hK hM hS hA (by decide) 0 rfl (by decide) (N' := 60) (by decide) (by decide) (by decide) (by decide) d_Y_init_87 (fun q81 H hq82 hM hS => ?_)
    replace h := h q81 hq82
    obtain ⟨M83, e84⟩ : ∃ z, z = znw M79 q81 (20, 60) := ⟨_, rfl⟩
    replace h := h M83 e84
    rw [← e84] at hM
    have t85 : zT M83 q81 = some (20, 60) := by rw [e84, zT_nw, if_pos rfl]
    obtain ⟨t86, h⟩ := h
    refine z_putR (v := some q81) hx hb hW in_9 ty_9 tyok_9 nm_9 hown hK hM hS t86 (by decide) rfl 13 (by decide) rfl (hW _ k_598) rfl (Or.inr ⟨rfl, hnm, rfl⟩) rfl rfl d_Y_init_89 (fun H locs hM hS => ?_)
    obtain ⟨M87, e88⟩ : ∃ z, z = zwR M83 a0 13 (some q81) := ⟨_, rfl⟩
    replace h := h M87 e88
    rw [← e88] at hM
    refine lv_aload_n hx hb d_Y_init_92 rfl (hl.at 0 rfl) ?_
    refine lv_bipush (v := (60 : Int32)) hx hb d_Y_init_93 (by decide) ?_
    refine z_newP (atype := .int) hx hb (hW _ k_85) rfl hK hM hS hA (by decide) 0 rfl (by decide) (N' := 60) (by decide) (by decide) (by decide) (by decide) d_Y_init_95 (fun q89 H hq90 hM hS => ?_)
    replace h := h q89 hq90
    obtain ⟨M91, e92⟩ : ∃ z, z = znw M87 q89 (20, 60) := ⟨_, rfl⟩
    replace h := h M91 e92
    rw [← e92] at hM
    have t93 : zT M91 q89 = some (20, 60) := by rw [e92, zT_nw, if_pos rfl]
    obtain ⟨t94, h⟩ := h
    refine z_putR (v := some q89) hx hb hW in_9 ty_9 tyok_9 nm_9 hown hK hM hS t94 (by decide) rfl 14 (by decide) rfl (hW _ k_599) rfl (Or.inr ⟨rfl, hnm, rfl⟩) rfl rfl d_Y_init_97 (fun H locs hM hS => ?_)
    obtain ⟨M95, e96⟩ : ∃ z, z = zwR M91 a0 14 (some q89) := ⟨_, rfl⟩
    replace h := h M95 e96
    rw [← e96] at hM
    refine lv_aload_n hx hb d_Y_init_100 rfl (hl.at 0 rfl) ?_
    refine lv_bipush (v := (60 : Int32)) hx hb d_Y_init_101 (by decide) ?_
    refine z_newP (atype := .int) hx hb (hW _ k_85) rfl hK hM hS hA (by decide) 0 rfl (by decide) (N' := 60) (by decide) (by decide) (by decide) (by decide) d_Y_init_103 (fun q97 H hq98 hM hS => ?_)
    replace h := h q97 hq98
    obtain ⟨M99, e100⟩ : ∃ z, z = znw M95 q97 (20, 60) := ⟨_, rfl⟩
    replace h := h M99 e100
    rw [← e100] at hM
    have t101 : zT M99 q97 = some (20, 60) := by rw [e100, zT_nw, if_pos rfl]
    obtain ⟨t102, h⟩ := h
    refine z_putR (v := some q97) hx hb hW in_9 ty_9 tyok_9 nm_9 hown hK hM hS t102 (by decide) rfl 15 (by decide) rfl (hW _ k_600) rfl (Or.inr ⟨rfl, hnm, rfl⟩) rfl rfl d_Y_init_105 (fun H locs hM hS => ?_)
    obtain ⟨M103, e104⟩ : ∃ z, z = zwR M99 a0 15 (some q97) := ⟨_, rfl⟩
    replace h := h M103 e104
    rw [← e104] at hM
    refine lv_aload_n hx hb d_Y_init_108 rfl (hl.at 0 rfl) ?_
    refine lv_bipush (v := (60 : Int32)) hx hb d_Y_init_109 (by decide) ?_
    refine z_newP (atype := .int) hx hb (hW _ k_85) rfl hK hM hS hA (by decide) 0 rfl (by decide) (N' := 60) (by decide) (by decide) (by decide) (by decide) d_Y_init_111 (fun q105 H hq106 hM hS => ?_)
    replace h := h q105 hq106
    obtain ⟨M107, e108⟩ : ∃ z, z = znw M103 q105 (20, 60) := ⟨_, rfl⟩
    replace h := h M107 e108
    rw [← e108] at hM
    have t109 : zT M107 q105 = some (20, 60) := by rw [e108, zT_nw, if_pos rfl]
    obtain ⟨t110, h⟩ := h
    refine z_putR (v := some q105) hx hb hW in_9 ty_9 tyok_9 nm_9 hown hK hM hS t110 (by decide) rfl 16 (by decide) rfl (hW _ k_601) rfl (Or.inr ⟨rfl, hnm, rfl⟩) rfl rfl d_Y_init_113 (fun H locs hM hS => ?_)
    obtain ⟨M111, e112⟩ : ∃ z, z = zwR M107 a0 16 (some q105) := ⟨_, rfl⟩
    replace h := h M111 e112
    rw [← e112] at hM
    refine lv_aload_n hx hb d_Y_init_116 rfl (hl.at 0 rfl) ?_
    refine lv_bipush (v := (60 : Int32)) hx hb d_Y_init_117 (by decide) ?_
    refine z_newP (atype := .int) hx hb (hW _ k_85) rfl hK hM hS hA (by decide) 0 rfl (by decide) (N' := 60) (by decide) (by decide) (by decide) (by decide) d_Y_init_119 (fun q113 H hq114 hM hS => ?_)
    replace h := h q113 hq114
    obtain ⟨M115, e116⟩ : ∃ z, z = znw M111 q113 (20, 60) := ⟨_, rfl⟩
    replace h := h M115 e116
    rw [← e116] at hM
    have t117 : zT M115 q113 = some (20, 60) := by rw [e116, zT_nw, if_pos rfl]
    obtain ⟨t118, h⟩ := h
    refine z_putR (v := some q113) hx hb hW in_9 ty_9 tyok_9 nm_9 hown hK hM hS t118 (by decide) rfl 17 (by decide) rfl (hW _ k_602) rfl (Or.inr ⟨rfl, hnm, rfl⟩) rfl rfl d_Y_init_121 (fun H locs hM hS => ?_)
    obtain ⟨M119, e120⟩ : ∃ z, z = zwR M115 a0 17 (some q113) := ⟨_, rfl⟩
    replace h := h M119 e120
    rw [← e120] at hM
    refine lv_aload_n hx hb d_Y_init_124 rfl (hl.at 0 rfl) ?_
    refine lv_bipush (v := (60 : Int32)) hx hb d_Y_init_125 (by decide) ?_
    refine z_newP (atype := .int) hx hb (hW _ k_85) rfl hK hM hS hA (by decide) 0 rfl (by decide) (N' := 60) (by decide) (by decide) (by decide) (by decide) d_Y_init_127 (fun q121 H hq122 hM hS => ?_)
    replace h := h q121 hq122
    obtain ⟨M123, e124⟩ : ∃ z, z = znw M119 q121 (20, 60) := ⟨_, rfl⟩
    replace h := h M123 e124
    rw [← e124] at hM
    have t125 : zT M123 q121 = some (20, 60) := by rw [e124, zT_nw, if_pos rfl]
    obtain ⟨t126, h⟩ := h
    refine z_putR (v := some q121) hx hb hW in_9 ty_9 tyok_9 nm_9 hown hK hM hS t126 (by decide) rfl 18 (by decide) rfl (hW _ k_603) rfl (Or.inr ⟨rfl, hnm, rfl⟩) rfl rfl d_Y_init_129 (fun H locs hM hS => ?_)
    obtain ⟨M127, e128⟩ : ∃ z, z = zwR M123 a0 18 (some q121) := ⟨_, rfl⟩
    replace h := h M127 e128
    rw [← e128] at hM
    refine lv_aload_n hx hb d_Y_init_132 rfl (hl.at 0 rfl) ?_
    refine lv_bipush (v := (60 : Int32)) hx hb d_Y_init_133 (by decide) ?_
    refine z_newP (atype := .int) hx hb (hW _ k_85) rfl hK hM hS hA (by decide) 0 rfl (by decide) (N' := 60) (by decide) (by decide) (by decide) (by decide) d_Y_init_135 (fun q129 H hq130 hM hS => ?_)
    replace h := h q129 hq130
    obtain ⟨M131, e132⟩ : ∃ z, z = znw M127 q129 (20, 60) := ⟨_, rfl⟩
    replace h := h M131 e132
    rw [← e132] at hM
    have t133 : zT M131 q129 = some (20, 60) := by rw [e132, zT_nw, if_pos rfl]
    obtain ⟨t134, h⟩ := h
    refine z_putR (v := some q129) hx hb hW in_9 ty_9 tyok_9 nm_9 hown hK hM hS t134 (by decide) rfl 19 (by decide) rfl (hW _ k_604) rfl (Or.inr ⟨rfl, hnm, rfl⟩) rfl rfl d_Y_init_137 (fun H locs hM hS => ?_)
    obtain ⟨M135, e136⟩ : ∃ z, z = zwR M131 a0 19 (some q129) := ⟨_, rfl⟩
    replace h := h M135 e136
    rw [← e136] at hM
    refine lv_aload_n hx hb d_Y_init_140 rfl (hl.at 0 rfl) ?_
    refine lv_sipush (v := (180 : Int32)) hx hb d_Y_init_141 (by decide) ?_
    refine z_newP (atype := .int) hx hb (hW _ k_85) rfl hK hM hS hA (by decide) 0 rfl (by decide) (N' := 180) (by decide) (by decide) (by decide) (by decide) d_Y_init_144 (fun q137 H hq138 hM hS => ?_)
    replace h := h q137 hq138
    obtain ⟨M139, e140⟩ : ∃ z, z = znw M135 q137 (20, 180) := ⟨_, rfl⟩
    replace h := h M139 e140
    rw [← e140] at hM
    have t141 : zT M139 q137 = some (20, 180) := by rw [e140, zT_nw, if_pos rfl]
    obtain ⟨t142, h⟩ := h
    refine z_putR (v := some q137) hx hb hW in_9 ty_9 tyok_9 nm_9 hown hK hM hS t142 (by decide) rfl 20 (by decide) rfl (hW _ k_605) rfl (Or.inr ⟨rfl, hnm, rfl⟩) rfl rfl d_Y_init_146 (fun H locs hM hS => ?_)
    obtain ⟨M143, e144⟩ : ∃ z, z = zwR M139 a0 20 (some q137) := ⟨_, rfl⟩
    replace h := h M143 e144
    rw [← e144] at hM
    refine lv_aload_n hx hb d_Y_init_149 rfl (hl.at 0 rfl) ?_
    refine lv_bipush (v := (6 : Int32)) hx hb d_Y_init_150 (by decide) ?_
    refine z_newP (atype := .int) hx hb (hW _ k_85) rfl hK hM hS hA (by decide) 0 rfl (by decide) (N' := 6) (by decide) (by decide) (by decide) (by decide) d_Y_init_152 (fun q145 H hq146 hM hS => ?_)
    replace h := h q145 hq146
    obtain ⟨M147, e148⟩ : ∃ z, z = znw M143 q145 (20, 6) := ⟨_, rfl⟩
    replace h := h M147 e148
    rw [← e148] at hM
    have t149 : zT M147 q145 = some (20, 6) := by rw [e148, zT_nw, if_pos rfl]
    obtain ⟨t150, h⟩ := h
    refine z_putR (v := some q145) hx hb hW in_9 ty_9 tyok_9 nm_9 hown hK hM hS t150 (by decide) rfl 21 (by decide) rfl (hW _ k_606) rfl (Or.inr ⟨rfl, hnm, rfl⟩) rfl rfl d_Y_init_154 (fun H locs hM hS => ?_)
    obtain ⟨M151, e152⟩ : ∃ z, z = zwR M147 a0 21 (some q145) := ⟨_, rfl⟩
    replace h := h M151 e152
    rw [← e152] at hM
    refine lv_aload_n hx hb d_Y_init_157 rfl (hl.at 0 rfl) ?_
    refine lv_bipush (v := (6 : Int32)) hx hb d_Y_init_158 (by decide) ?_
    refine z_newP (atype := .int) hx hb (hW _ k_85) rfl hK hM hS hA (by decide) 0 rfl (by decide) (N' := 6) (by decide) (by decide) (by decide) (by decide) d_Y_init_160 (fun q153 H hq154 hM hS => ?_)
    replace h := h q153 hq154
    obtain ⟨M155, e156⟩ : ∃ z, z = znw M151 q153 (20, 6) := ⟨_, rfl⟩
    replace h := h M155 e156
    rw [← e156] at hM
    have t157 : zT M155 q153 = some (20, 6) := by rw [e156, zT_nw, if_pos rfl]
    obtain ⟨t158, h⟩ := h
    refine z_putR (v := some q153) hx hb hW in_9 ty_9 tyok_9 nm_9 hown hK hM hS t158 (by decide) rfl 22 (by decide) rfl (hW _ k_607) rfl (Or.inr ⟨rfl, hnm, rfl⟩) rfl rfl d_Y_init_162 (fun H locs hM hS => ?_)
    obtain ⟨M159, e160⟩ : ∃ z, z = zwR M155 a0 22 (some q153) := ⟨_, rfl⟩
    replace h := h M159 e160
    rw [← e160] at hM
    refine lv_aload_n hx hb d_Y_init_165 rfl (hl.at 0 rfl) ?_
    refine lv_bipush (v := (6 : Int32)) hx hb d_Y_init_166 (by decide) ?_
    refine z_newP (atype := .int) hx hb (hW _ k_85) rfl hK hM hS hA (by decide) 0 rfl (by decide) (N' := 6) (by decide) (by decide) (by decide) (by decide) d_Y_init_168 (fun q161 H hq162 hM hS => ?_)
    replace h := h q161 hq162
    obtain ⟨M163, e164⟩ : ∃ z, z = znw M159 q161 (20, 6) := ⟨_, rfl⟩
    replace h := h M163 e164
    rw [← e164] at hM
    have t165 : zT M163 q161 = some (20, 6) := by rw [e164, zT_nw, if_pos rfl]
    obtain ⟨t166, h⟩ := h
    refine z_putR (v := some q161) hx hb hW in_9 ty_9 tyok_9 nm_9 hown hK hM hS t166 (by decide) rfl 23 (by decide) rfl (hW _ k_608) rfl (Or.inr ⟨rfl, hnm, rfl⟩) rfl rfl d_Y_init_170 (fun H locs hM hS => ?_)
    obtain ⟨M167, e168⟩ : ∃ z, z = zwR M163 a0 23 (some q161) := ⟨_, rfl⟩
    replace h := h M167 e168
    rw [← e168] at hM
    refine lv_aload_n hx hb d_Y_init_173 rfl (hl.at 0 rfl) ?_
    refine lv_bipush (v := (6 : Int32)) hx hb d_Y_init_174 (by decide) ?_
    refine z_newP (atype := .int) hx hb (hW _ k_85) rfl hK hM hS hA (by decide) 0 rfl (by decide) (N' := 6) (by decide) (by decide) (by decide) (by decide) d_Y_init_176 (fun q169 H hq170 hM hS => ?_)
    replace h := h q169 hq170
    obtain ⟨M171, e172⟩ : ∃ z, z = znw M167 q169 (20, 6) := ⟨_, rfl⟩
    replace h := h M171 e172
    rw [← e172] at hM
    have t173 : zT M171 q169 = some (20, 6) := by rw [e172, zT_nw, if_pos rfl]
    obtain ⟨t174, h⟩ := h
    refine z_putR (v := some q169) hx hb hW in_9 ty_9 tyok_9 nm_9 hown hK hM hS t174 (by decide) rfl 24 (by decide) rfl (hW _ k_609) rfl (Or.inr ⟨rfl, hnm, rfl⟩) rfl rfl d_Y_init_178 (fun H locs hM hS => ?_)
    obtain ⟨M175, e176⟩ : ∃ z, z = zwR M171 a0 24 (some q169) := ⟨_, rfl⟩
    replace h := h M175 e176
    rw [← e176] at hM
    refine lv_aload_n hx hb d_Y_init_181 rfl (hl.at 0 rfl) ?_
    refine lv_bipush (v := (6 : Int32)) hx hb d_Y_init_182 (by decide) ?_
    refine z_newP (atype := .int) hx hb (hW _ k_85) rfl hK hM hS hA (by decide) 0 rfl (by decide) (N' := 6) (by decide) (by decide) (by decide) (by decide) d_Y_init_184 (fun q177 H hq178 hM hS => ?_)
    replace h := h q177 hq178
    obtain ⟨M179, e180⟩ : ∃ z, z = znw M175 q177 (20, 6) := ⟨_, rfl⟩
    replace h := h M179 e180
    rw [← e180] at hM
    have t181 : zT M179 q177 = some (20, 6) := by rw [e180, zT_nw, if_pos rfl]
    obtain ⟨t182, h⟩ := h
    refine z_putR (v := some q177) hx hb hW in_9 ty_9 tyok_9 nm_9 hown hK hM hS t182 (by decide) rfl 25 (by decide) rfl (hW _ k_610) rfl (Or.inr ⟨rfl, hnm, rfl⟩) rfl rfl d_Y_init_186 (fun H locs hM hS => ?_)
    obtain ⟨M183, e184⟩ : ∃ z, z = zwR M179 a0 25 (some q177) := ⟨_, rfl⟩
    replace h := h M183 e184
    rw [← e184] at hM
    refine lv_aload_n hx hb d_Y_init_189 rfl (hl.at 0 rfl) ?_
    refine lv_sipush (v := (180 : Int32)) hx hb d_Y_init_190 (by decide) ?_
    refine z_newP (atype := .int) hx hb (hW _ k_85) rfl hK hM hS hA (by decide) 0 rfl (by decide) (N' := 180) (by decide) (by decide) (by decide) (by decide) d_Y_init_193 (fun q185 H hq186 hM hS => ?_)
    replace h := h q185 hq186
    obtain ⟨M187, e188⟩ : ∃ z, z = znw M183 q185 (20, 180) := ⟨_, rfl⟩
    replace h := h M187 e188
    rw [← e188] at hM
    have t189 : zT M187 q185 = some (20, 180) := by rw [e188, zT_nw, if_pos rfl]
    obtain ⟨t190, h⟩ := h
    refine z_putR (v := some q185) hx hb hW in_9 ty_9 tyok_9 nm_9 hown hK hM hS t190 (by decide) rfl 26 (by decide) rfl (hW _ k_611) rfl (Or.inr ⟨rfl, hnm, rfl⟩) rfl rfl d_Y_init_195 (fun H locs hM hS => ?_)
    obtain ⟨M191, e192⟩ : ∃ z, z = zwR M187 a0 26 (some q185) := ⟨_, rfl⟩
    replace h := h M191 e192
    rw [← e192] at hM
    refine lv_aload_n hx hb d_Y_init_198 rfl (hl.at 0 rfl) ?_
    refine lv_sipush (v := (180 : Int32)) hx hb d_Y_init_199 (by decide) ?_
    refine z_newP (atype := .int) hx hb (hW _ k_85) rfl hK hM hS hA (by decide) 0 rfl (by decide) (N' := 180) (by decide) (by decide) (by decide) (by decide) d_Y_init_202 (fun q193 H hq194 hM hS => ?_)
    replace h := h q193 hq194
    obtain ⟨M195, e196⟩ : ∃ z, z = znw M191 q193 (20, 180) := ⟨_, rfl⟩
    replace h := h M195 e196
    rw [← e196] at hM
    have t197 : zT M195 q193 = some (20, 180) := by rw [e196, zT_nw, if_pos rfl]
    obtain ⟨t198, h⟩ := h
    refine z_putR (v := some q193) hx hb hW in_9 ty_9 tyok_9 nm_9 hown hK hM hS t198 (by decide) rfl 27 (by decide) rfl (hW _ k_612) rfl (Or.inr ⟨rfl, hnm, rfl⟩) rfl rfl d_Y_init_204 (fun H locs hM hS => ?_)
    obtain ⟨M199, e200⟩ : ∃ z, z = zwR M195 a0 27 (some q193) := ⟨_, rfl⟩
    replace h := h M199 e200
    rw [← e200] at hM
    refine lv_aload_n hx hb d_Y_init_207 rfl (hl.at 0 rfl) ?_
    refine lv_sipush (v := (572 : Int32)) hx hb d_Y_init_208 (by decide) ?_
    refine z_newP (atype := .int) hx hb (hW _ k_85) rfl hK hM hS hA (by decide) 0 rfl (by decide) (N' := 572) (by decide) (by decide) (by decide) (by decide) d_Y_init_211 (fun q201 H hq202 hM hS => ?_)
    replace h := h q201 hq202
    obtain ⟨M203, e204⟩ : ∃ z, z = znw M199 q201 (20, 572) := ⟨_, rfl⟩
    replace h := h M203 e204
    rw [← e204] at hM
    have t205 : zT M203 q201 = some (20, 572) := by rw [e204, zT_nw, if_pos rfl]
    obtain ⟨t206, h⟩ := h
    refine z_putR (v := some q201) hx hb hW in_9 ty_9 tyok_9 nm_9 hown hK hM hS t206 (by decide) rfl 32 (by decide) rfl (hW _ k_617) rfl (Or.inr ⟨rfl, hnm, rfl⟩) rfl rfl d_Y_init_213 (fun H locs hM hS => ?_)
    obtain ⟨M207, e208⟩ : ∃ z, z = zwR M203 a0 32 (some q201) := ⟨_, rfl⟩
    replace h := h M207 e208
    rw [← e208] at hM
    refine lv_aload_n hx hb d_Y_init_216 rfl (hl.at 0 rfl) ?_
    refine lv_sipush (v := (572 : Int32)) hx hb d_Y_init_217 (by decide) ?_
    refine z_newP (atype := .int) hx hb (hW _ k_85) rfl hK hM hS hA (by decide) 0 rfl (by decide) (N' := 572) (by decide) (by decide) (by decide) (by decide) d_Y_init_220 (fun q209 H hq210 hM hS => ?_)
    replace h := h q209 hq210
    obtain ⟨M211, e212⟩ : ∃ z, z = znw M207 q209 (20, 572) := ⟨_, rfl⟩
    replace h := h M211 e212
    rw [← e212] at hM
    have t213 : zT M211 q209 = some (20, 572) := by rw [e212, zT_nw, if_pos rfl]
    obtain ⟨t214, h⟩ := h
    refine z_putR (v := some q209) hx hb hW in_9 ty_9 tyok_9 nm_9 hown hK hM hS t214 (by decide) rfl 33 (by decide) rfl (hW _ k_618) rfl (Or.inr ⟨rfl, hnm, rfl⟩) rfl rfl d_Y_init_222 (fun H locs hM hS => ?_)
    obtain ⟨M215, e216⟩ : ∃ z, z = zwR M211 a0 33 (some q209) := ⟨_, rfl⟩
    replace h := h M215 e216
    rw [← e216] at hM
    refine lv_iconst (v := (0 : Int32)) hx hb d_Y_init_225 (by decide) ?_
    refine z_istore_n hx hb d_Y_init_226 rfl hl (by decide) rfl (fun ls hl => ?_)
    have hl : zL ls 2 [(1, .int (0 : Int32)), (0, .ref a0)] := hl
    obtain ⟨n236, h⟩ := h
    exact b_227 n236 M215 H locs ls a0 (0 : Int32) (hl.sub [1, 0] rfl) hM hS h
  exact b_start M s.heap [] ls a0 hl hM hS h
