set_option maxHeartbeats 4000000 in
set_option maxRecDepth 100000 in
theorem c_Y_reply (l : Launch) (ca : Nat → ClassId) (D : va_G) (M : zM) (sz : Nat) (a0 : Nat) (x1 : Int32) (post : Int32 → zM → Prop) : Met l y_Y_reply (Cond.code y_Y_reply prog_11_method_22_code 2 (some .int) :: zws) rm_Y_reply (zPre ca D zcl (ztys ca) [.ref a0, .int x1] M sz (w_Y_reply M a0 x1 post)) (va_Qi post (zB ca D zcl (ztys ca) (zA M sz)) (zA M sz)) 0 0 (zA M sz) := by
  refine z_met (cc := prog_11_method_22_code) (maxL := 2) (ret := (some .int)) (plainFor_of_name (by decide)) rfl (by simp [Value.category]) (Nat.le_of_ble_eq_true rfl) ?_
  intro p e s m args below meth c ls A hx hb hr hlk hml hts hown hnm hK hN hl hA0 hM hS hA h
  rw [← hA0]
  have hW : ∀ w ∈ zws, w.before args s = true := fun w hw => hts w (List.mem_cons_of_mem _ hw)
  have hl : zL ls 2 [(0, .ref a0), (1, .int x1)] := hl
  generalize hQ : MQ below (va_Qi post (zB ca D zcl (ztys ca) A) A) args s 0 0 A = Q
  have b_start : ∀ (M : zM) (H : Heap) (locs : List Loc) (ls : Array Slot) (a0 : Nat) (x1 : Int32), zL ls 2 [(0, .ref a0), (1, .int x1)] → zW ca D zcl A M H → va_S A s.heap H locs → w_Y_reply M a0 x1 post → W p l e rm_Y_reply s m args below meth c H locs 0 0 Q (F0 m 0 ls []) := by
    intro M H locs ls a0 x1 hl hM hS h
    unfold w_Y_reply at h
    refine lv_iload_n hx hb d_Y_reply_0 rfl (hl.at 1 rfl) ?_
    refine lv_aload_n hx hb d_Y_reply_1 rfl (hl.at 0 rfl) ?_
    obtain ⟨t1, h⟩ := h
    refine z_getI hx hb hW in_9 hown hK hM t1 (by decide) rfl 6 (by decide) rfl (hW _ k_591) rfl d_Y_reply_2 ?_
    refine lv_iconst (v := (1 : Int32)) hx hb d_Y_reply_5 (by decide) ?_
    refine lv_isub hx hb d_Y_reply_6 ?_
    refine z_cti (mc := 0) (ms := 0) (va_runS (As := [.int x1, .int ((zI M a0 6) - (1 : Int32))]) (rest := []) ⟨hx, hb, hml, hown, hW⟩ (c_Y_within l ca D M H.size x1 ((zI M a0 6) - (1 : Int32)) _) (cw_Y_within hW k_711 ⟨by decide, by decide⟩) (zPre_S hK hN hM h) rfl rfl hl.1.1 rfl (lv_room (Nat.le_of_ble_eq_true rfl)) d_Y_reply_7 ⟨by decide, by decide⟩) hM hS hA (fun r2 M3 H locs h hM hS => ?_)
    refine lv_if_eq (tgt := 23) hx hb d_Y_reply_10 rfl (fun c4 => ?_) (fun c4 => ?_)
    · replace h := h.1 c4
      refine lv_iconst (v := (-1 : Int32)) hx hb d_Y_reply_23 (by decide) ?_
      refine W.widen (k := 0) (n := 0) (by decide) (by decide) ?_
      rw [← hQ]
      exact z_iret hx hb hr hlk hK hM hS h d_Y_reply_24
    · replace h := h.2 c4
      refine lv_aload_n hx hb d_Y_reply_13 rfl (hl.at 0 rfl) ?_
      obtain ⟨t5, h⟩ := h
      refine z_getR hx hb hW in_9 hown hK hM t5 (by decide) rfl 15 (by decide) rfl (hW _ k_600) rfl d_Y_reply_14 ?_
      refine lv_iload_n hx hb d_Y_reply_17 rfl (hl.at 1 rfl) ?_
      obtain ⟨b6, hb7, h⟩ := h
      rw [hb7]
      obtain ⟨n9, t8, h⟩ := h
      obtain ⟨i10, h⟩ := h
      refine z_iald hx hb hK hM t8 0 rfl i10 d_Y_reply_18 ?_
      refine lv_iconst (v := (2 : Int32)) hx hb d_Y_reply_19 (by decide) ?_
      refine lv_icmp_eq (tgt := 25) hx hb d_Y_reply_20 rfl (fun c11 => ?_) (fun c11 => ?_)
      · replace h := h.1 c11
        refine lv_aload_n hx hb d_Y_reply_25 rfl (hl.at 0 rfl) ?_
        refine lv_iload_n hx hb d_Y_reply_26 rfl (hl.at 1 rfl) ?_
        refine z_cti (mc := 0) (ms := 0) (va_runV (As := [.int x1]) (rest := []) ⟨hx, hb, hml, hown, hW⟩ (c_Y_need l ca D M3 H.size a0 x1 _) (cw_Y_need hW k_738 ⟨by decide, by decide⟩) (zPre_V hK hN hM h t5 (by decide) rfl) rfl rfl hl.1.1 rfl (lv_room (Nat.le_of_ble_eq_true rfl)) d_Y_reply_27 ⟨by decide, by decide⟩) hM hS hA (fun r12 M13 H locs h hM hS => ?_)
        refine lv_aload_n hx hb d_Y_reply_30 rfl (hl.at 0 rfl) ?_
        obtain ⟨t14, h⟩ := h
        refine z_getI hx hb hW in_9 hown hK hM t14 (by decide) rfl 29 (by decide) rfl (hW _ k_614) rfl d_Y_reply_31 ?_
        refine lv_icmp_le (tgt := 46) hx hb d_Y_reply_34 rfl (fun c15 => ?_) (fun c15 => ?_)
        · replace h := h.1 c15
          refine lv_aload_n hx hb d_Y_reply_46 rfl (hl.at 0 rfl) ?_
          refine lv_iload_n hx hb d_Y_reply_47 rfl (hl.at 1 rfl) ?_
          refine z_cti (mc := 0) (ms := 0) (va_runV (As := [.int x1]) (rest := []) ⟨hx, hb, hml, hown, hW⟩ (c_Y_read l ca D M13 H.size a0 x1 _) (cw_Y_read hW k_782 ⟨by decide, by decide⟩) (zPre_V hK hN hM h t14 (by decide) rfl) rfl rfl hl.1.1 rfl (lv_room (Nat.le_of_ble_eq_true rfl)) d_Y_reply_48 ⟨by decide, by decide⟩) hM hS hA (fun r16 M17 H locs h hM hS => ?_)
          refine W.widen (k := 0) (n := 0) (by decide) (by decide) ?_
          rw [← hQ]
          exact z_iret hx hb hr hlk hK hM hS h d_Y_reply_51
        · replace h := h.2 c15
          refine lv_aload_n hx hb d_Y_reply_37 rfl (hl.at 0 rfl) ?_
          refine z_getR hx hb hW in_9 hown hK hM t14 (by decide) rfl 15 (by decide) rfl (hW _ k_600) rfl d_Y_reply_38 ?_
          refine lv_iload_n hx hb d_Y_reply_41 rfl (hl.at 1 rfl) ?_
          refine lv_iconst (v := (3 : Int32)) hx hb d_Y_reply_42 (by decide) ?_
          obtain ⟨b18, hb19, h⟩ := h
          rw [hb19]
          obtain ⟨n21, t20, h⟩ := h
          obtain ⟨i22, h⟩ := h
          refine z_iast hx hb hK hM hS t20 0 rfl i22 d_Y_reply_43 (fun H locs hM hS => ?_)
          obtain ⟨M23, e24⟩ : ∃ z, z = zwI M13 b18 x1.toNatClampNeg (3 : Int32) := ⟨_, rfl⟩
          replace h := h M23 e24
          rw [← e24] at hM
          refine lv_iconst (v := (0 : Int32)) hx hb d_Y_reply_44 (by decide) ?_
          refine W.widen (k := 0) (n := 0) (by decide) (by decide) ?_
          rw [← hQ]
          exact z_iret hx hb hr hlk hK hM hS h d_Y_reply_45
      · replace h := h.2 c11
        refine lv_iconst (v := (-1 : Int32)) hx hb d_Y_reply_23 (by decide) ?_
        refine W.widen (k := 0) (n := 0) (by decide) (by decide) ?_
        rw [← hQ]
        exact z_iret hx hb hr hlk hK hM hS h d_Y_reply_24
  exact b_start M s.heap [] ls a0 x1 hl hM hS h
set_option maxHeartbeats 4000000 in
set_option maxRecDepth 100000 in
theorem c_Y_insert (l : Launch) (ca : Nat → ClassId) (D : va_G) (M : zM) (sz : Nat) (a0 : Nat) (post : Int32 → zM → Prop) : Met l y_Y_insert (Cond.code y_Y_insert prog_11_method_23_code 4 (some .int) :: zws) rm_Y_insert (zPre ca D zcl (ztys ca) [.ref a0] M sz (w_Y_insert M a0 post)) (va_Qi post (zB ca D zcl (ztys ca) (zA M sz)) (zA M sz)) 0 0 (zA M sz) := by
  refine z_met (cc := prog_11_method_23_code) (maxL := 4) (ret := (some .int)) (plainFor_of_name (by decide)) rfl (by simp [Value.category]) (Nat.le_of_ble_eq_true rfl) ?_
  intro p e s m args below meth c ls A hx hb hr hlk hml hts hown hnm hK hN hl hA0 hM hS hA h
  rw [← hA0]
  have hW : ∀ w ∈ zws, w.before args s = true := fun w hw => hts w (List.mem_cons_of_mem _ hw)
  have hl : zL ls 4 [(0, .ref a0)] := hl
  generalize hQ : MQ below (va_Qi post (zB ca D zcl (ztys ca) A) A) args s 0 0 A = Q
  have b_27 : ∀ (n : Nat) (M : zM) (H : Heap) (locs : List Loc) (ls : Array Slot) (a0 : Nat) (x1 : Int32) (x2 : Int32), zL ls 4 [(0, .ref a0), (1, .int x1), (2, .int x2)] → zW ca D zcl A M H → va_S A s.heap H locs → w_Y_insert_27 post n M a0 x1 x2 → W p l e rm_Y_insert s m args below meth c H locs 0 0 Q (F0 m 27 ls []) := by
    intro n
    induction n with
    | zero =>
      intro M H locs ls a0 x1 x2 hl hM hS h
      exact False.elim h
    | succ n ih =>
      intro M H locs ls a0 x1 x2 hl hM hS h
      rw [w_Y_insert_27] at h
      refine lv_iload_n hx hb d_Y_insert_27 rfl (hl.at 2 rfl) ?_
      refine lv_aload_n hx hb d_Y_insert_28 rfl (hl.at 0 rfl) ?_
      obtain ⟨t5, h⟩ := h
      refine z_getI hx hb hW in_9 hown hK hM t5 (by decide) rfl 6 (by decide) rfl (hW _ k_591) rfl d_Y_insert_29 ?_
      refine lv_icmp_ge (tgt := 81) hx hb d_Y_insert_32 rfl (fun c6 => ?_) (fun c6 => ?_)
      · replace h := h.1 c6
        refine lv_iload_n hx hb d_Y_insert_81 rfl (hl.at 1 rfl) ?_
        rw [← hQ]
        exact z_iret hx hb hr hlk hK hM hS h d_Y_insert_82
      · replace h := h.2 c6
        refine lv_aload_n hx hb d_Y_insert_35 rfl (hl.at 0 rfl) ?_
        refine z_getR hx hb hW in_9 hown hK hM t5 (by decide) rfl 15 (by decide) rfl (hW _ k_600) rfl d_Y_insert_36 ?_
        refine lv_iload_n hx hb d_Y_insert_39 rfl (hl.at 2 rfl) ?_
        obtain ⟨b7, hb8, h⟩ := h
        rw [hb8]
        obtain ⟨n10, t9, h⟩ := h
        obtain ⟨i11, h⟩ := h
        refine z_iald hx hb hK hM t9 0 rfl i11 d_Y_insert_40 ?_
        refine lv_iconst (v := (3 : Int32)) hx hb d_Y_insert_41 (by decide) ?_
        refine lv_icmp_ne (tgt := 75) hx hb d_Y_insert_42 rfl (fun c12 => ?_) (fun c12 => ?_)
        · replace h := h.2 c12
          refine z_iinc (k := 2) (v := x2 + (1 : Int32)) hx hb d_Y_insert_75 hl rfl rfl (by decide) rfl (fun ls hl => ?_)
          have hl : zL ls 4 [(2, .int (x2 + (1 : Int32))), (0, .ref a0), (1, .int x1)] := hl
          refine lv_goto (tgt := 27) hx hb d_Y_insert_78 rfl ?_
          exact ih M H locs ls a0 x1 (x2 + (1 : Int32)) (hl.sub [1, 2, 0] rfl) hM hS h
        · replace h := h.1 c12
          refine lv_aload_n hx hb d_Y_insert_45 rfl (hl.at 0 rfl) ?_
          refine lv_iload_n hx hb d_Y_insert_46 rfl (hl.at 2 rfl) ?_
          refine z_cti (mc := 0) (ms := 0) (va_runV (As := [.int x2]) (rest := []) ⟨hx, hb, hml, hown, hW⟩ (c_Y_need l ca D M H.size a0 x2 _) (cw_Y_need hW k_738 ⟨by decide, by decide⟩) (zPre_V hK hN hM h t5 (by decide) rfl) rfl rfl hl.1.1 rfl (lv_room (Nat.le_of_ble_eq_true rfl)) d_Y_insert_47 ⟨by decide, by decide⟩) hM hS hA (fun r13 M14 H locs h hM hS => ?_)
          refine lv_aload_n hx hb d_Y_insert_50 rfl (hl.at 0 rfl) ?_
          obtain ⟨t15, h⟩ := h
          refine z_getI hx hb hW in_9 hown hK hM t15 (by decide) rfl 29 (by decide) rfl (hW _ k_614) rfl d_Y_insert_51 ?_
          refine lv_icmp_gt (tgt := 75) hx hb d_Y_insert_54 rfl (fun c16 => ?_) (fun c16 => ?_)
          · replace h := h.1 c16
            refine z_iinc (k := 2) (v := x2 + (1 : Int32)) hx hb d_Y_insert_75 hl rfl rfl (by decide) rfl (fun ls hl => ?_)
            have hl : zL ls 4 [(2, .int (x2 + (1 : Int32))), (0, .ref a0), (1, .int x1)] := hl
            refine lv_goto (tgt := 27) hx hb d_Y_insert_78 rfl ?_
            exact ih M14 H locs ls a0 x1 (x2 + (1 : Int32)) (hl.sub [1, 2, 0] rfl) hM hS h
          · replace h := h.2 c16
            refine lv_aload_n hx hb d_Y_insert_57 rfl (hl.at 0 rfl) ?_
            refine lv_iload_n hx hb d_Y_insert_58 rfl (hl.at 2 rfl) ?_
            refine z_cti (mc := 0) (ms := 0) (va_runV (As := [.int x2]) (rest := []) ⟨hx, hb, hml, hown, hW⟩ (c_Y_read l ca D M14 H.size a0 x2 _) (cw_Y_read hW k_782 ⟨by decide, by decide⟩) (zPre_V hK hN hM h t15 (by decide) rfl) rfl rfl hl.1.1 rfl (lv_room (Nat.le_of_ble_eq_true rfl)) d_Y_insert_59 ⟨by decide, by decide⟩) hM hS hA (fun r17 M18 H locs h hM hS => ?_)
            refine z_istore_n hx hb d_Y_insert_62 rfl hl (by decide) rfl (fun ls hl => ?_)
            have hl : zL ls 4 [(3, .int r17), (0, .ref a0), (1, .int x1), (2, .int x2)] := hl
            refine lv_iload_n hx hb d_Y_insert_63 rfl (hl.at 0 rfl) ?_
            refine lv_if_le (tgt := 73) hx hb d_Y_insert_64 rfl (fun c19 => ?_) (fun c19 => ?_)
            · replace h := h.1 c19
              refine lv_iload_n hx hb d_Y_insert_73 rfl (hl.at 2 rfl) ?_
              refine z_istore_n hx hb d_Y_insert_74 rfl hl (by decide) rfl (fun ls hl => ?_)
              have hl : zL ls 4 [(1, .int x1), (3, .int r17), (0, .ref a0), (2, .int x2)] := hl
              refine z_iinc (k := 3) (v := x2 + (1 : Int32)) hx hb d_Y_insert_75 hl rfl rfl (by decide) rfl (fun ls hl => ?_)
              have hl : zL ls 4 [(2, .int (x2 + (1 : Int32))), (1, .int x1), (3, .int r17), (0, .ref a0)] := hl
              refine lv_goto (tgt := 27) hx hb d_Y_insert_78 rfl ?_
              exact ih M18 H locs ls a0 x1 (x2 + (1 : Int32)) (hl.sub [3, 1, 0] rfl) hM hS h
            · replace h := h.2 c19
              refine lv_iload_n hx hb d_Y_insert_67 rfl (hl.at 2 rfl) ?_
              refine lv_iconst (v := (1 : Int32)) hx hb d_Y_insert_68 (by decide) ?_
              refine lv_iadd hx hb d_Y_insert_69 ?_
              refine lv_goto (tgt := 74) hx hb d_Y_insert_70 rfl ?_
              refine z_istore_n hx hb d_Y_insert_74 rfl hl (by decide) rfl (fun ls hl => ?_)
              have hl : zL ls 4 [(1, .int (x1 + (1 : Int32))), (3, .int r17), (0, .ref a0), (2, .int x2)] := hl
              refine z_iinc (k := 3) (v := x2 + (1 : Int32)) hx hb d_Y_insert_75 hl rfl rfl (by decide) rfl (fun ls hl => ?_)
              have hl : zL ls 4 [(2, .int (x2 + (1 : Int32))), (1, .int (x1 + (1 : Int32))), (3, .int r17), (0, .ref a0)] := hl
              refine lv_goto (tgt := 27) hx hb d_Y_insert_78 rfl ?_
              exact ih M18 H locs ls a0 (x1 + (1 : Int32)) (x2 + (1 : Int32)) (hl.sub [3, 1, 0] rfl) hM hS h
  have b_start : ∀ (M : zM) (H : Heap) (locs : List Loc) (ls : Array Slot) (a0 : Nat), zL ls 4 [(0, .ref a0)] → zW ca D zcl A M H → va_S A s.heap H locs → w_Y_insert M a0 post → W p l e rm_Y_insert s m args below meth c H locs 0 0 Q (F0 m 0 ls []) := by
    intro M H locs ls a0 hl hM hS h
    unfold w_Y_insert at h
    refine lv_aload_n hx hb d_Y_insert_0 rfl (hl.at 0 rfl) ?_
    obtain ⟨t1, h⟩ := h
    refine z_getI hx hb hW in_9 hown hK hM t1 (by decide) rfl 29 (by decide) rfl (hW _ k_614) rfl d_Y_insert_1 ?_
    refine lv_aload_n hx hb d_Y_insert_4 rfl (hl.at 0 rfl) ?_
    refine z_getI hx hb hW in_9 hown hK hM t1 (by decide) rfl 28 (by decide) rfl (hW _ k_613) rfl d_Y_insert_5 ?_
    refine lv_icmp_ne (tgt := 13) hx hb d_Y_insert_8 rfl (fun c2 => ?_) (fun c2 => ?_)
    · replace h := h.2 c2
      refine lv_aload_n hx hb d_Y_insert_13 rfl (hl.at 0 rfl) ?_
      refine lv_dup hx hb d_Y_insert_14 rfl ?_
      refine z_getI hx hb hW in_9 hown hK hM t1 (by decide) rfl 29 (by decide) rfl (hW _ k_614) rfl d_Y_insert_15 ?_
      refine lv_iconst (v := (1 : Int32)) hx hb d_Y_insert_18 (by decide) ?_
      refine lv_iadd hx hb d_Y_insert_19 ?_
      refine z_putI hx hb hW in_9 ty_9 tyok_9 nm_9 hown hK hM hS t1 (by decide) rfl 29 (by decide) rfl (hW _ k_614) rfl (Or.inl rfl) rfl rfl d_Y_insert_20 (fun H locs hM hS => ?_)
      obtain ⟨M3, e4⟩ : ∃ z, z = zwI M a0 29 ((zI M a0 29) + (1 : Int32)) := ⟨_, rfl⟩
      replace h := h M3 e4
      rw [← e4] at hM
      refine lv_iconst (v := (0 : Int32)) hx hb d_Y_insert_23 (by decide) ?_
      refine z_istore_n hx hb d_Y_insert_24 rfl hl (by decide) rfl (fun ls hl => ?_)
      have hl : zL ls 4 [(1, .int (0 : Int32)), (0, .ref a0)] := hl
      refine lv_iconst (v := (0 : Int32)) hx hb d_Y_insert_25 (by decide) ?_
      refine z_istore_n hx hb d_Y_insert_26 rfl hl (by decide) rfl (fun ls hl => ?_)
      have hl : zL ls 4 [(2, .int (0 : Int32)), (1, .int (0 : Int32)), (0, .ref a0)] := hl
      obtain ⟨n20, h⟩ := h
      exact b_27 n20 M3 H locs ls a0 (0 : Int32) (0 : Int32) (hl.sub [2, 1, 0] rfl) hM hS h
    · replace h := h.1 c2
      refine lv_iconst (v := (-1 : Int32)) hx hb d_Y_insert_11 (by decide) ?_
      rw [← hQ]
      exact z_iret hx hb hr hlk hK hM hS h d_Y_insert_12
  exact b_start M s.heap [] ls a0 hl hM hS h
set_option maxHeartbeats 4000000 in
set_option maxRecDepth 100000 in
theorem c_Y_report (l : Launch) (ca : Nat → ClassId) (D : va_G) (M : zM) (sz : Nat) (a0 : Nat) (post : Int32 → zM → Prop) : Met l y_Y_report (Cond.code y_Y_report prog_11_method_24_code 2 (some .boolean) :: zws) rm_Y_report (zPre ca D zcl (ztys ca) [.ref a0] M sz (w_Y_report M a0 post)) (va_Qi post (zB ca D zcl (ztys ca) (zA M sz)) (zA M sz)) 0 0 (zA M sz) := by
  refine z_met (cc := prog_11_method_24_code) (maxL := 2) (ret := (some .boolean)) (plainFor_of_name (by decide)) rfl (by simp [Value.category]) (Nat.le_of_ble_eq_true rfl) ?_
  intro p e s m args below meth c ls A hx hb hr hlk hml hts hown hnm hK hN hl hA0 hM hS hA h
  rw [← hA0]
  have hW : ∀ w ∈ zws, w.before args s = true := fun w hw => hts w (List.mem_cons_of_mem _ hw)
  have hl : zL ls 2 [(0, .ref a0)] := hl
  generalize hQ : MQ below (va_Qi post (zB ca D zcl (ztys ca) A) A) args s 0 0 A = Q
  have b_start : ∀ (M : zM) (H : Heap) (locs : List Loc) (ls : Array Slot) (a0 : Nat), zL ls 2 [(0, .ref a0)] → zW ca D zcl A M H → va_S A s.heap H locs → w_Y_report M a0 post → W p l e rm_Y_report s m args below meth c H locs 0 0 Q (F0 m 0 ls []) := by
    intro M H locs ls a0 hl hM hS h
    unfold w_Y_report at h
    refine lv_aload_n hx hb d_Y_report_0 rfl (hl.at 0 rfl) ?_
    refine lv_aload_n hx hb d_Y_report_1 rfl (hl.at 0 rfl) ?_
    obtain ⟨t1, h⟩ := h
    refine z_getI hx hb hW in_9 hown hK hM t1 (by decide) rfl 34 (by decide) rfl (hW _ k_619) rfl d_Y_report_2 ?_
    refine z_cti (mc := 0) (ms := 0) (va_runV (As := [.int (zI M a0 34)]) (rest := []) ⟨hx, hb, hml, hown, hW⟩ (c_Y_after l ca D M H.size a0 (zI M a0 34) _) (cw_Y_after hW k_734 ⟨by decide, by decide⟩) (zPre_V hK hN hM h t1 (by decide) rfl) rfl rfl hl.1.1 rfl (lv_room (Nat.le_of_ble_eq_true rfl)) d_Y_report_5 ⟨by decide, by decide⟩) hM hS hA (fun r2 M3 H locs h hM hS => ?_)
    refine z_istore_n hx hb d_Y_report_8 rfl hl (by decide) rfl (fun ls hl => ?_)
    have hl : zL ls 2 [(1, .int r2), (0, .ref a0)] := hl
    refine lv_aload_n hx hb d_Y_report_9 rfl (hl.at 1 rfl) ?_
    obtain ⟨t4, h⟩ := h
    refine z_getI hx hb hW in_9 hown hK hM t4 (by decide) rfl 29 (by decide) rfl (hW _ k_614) rfl d_Y_report_10 ?_
    refine lv_iload_n hx hb d_Y_report_13 rfl (hl.at 0 rfl) ?_
    refine lv_icmp_gt (tgt := 19) hx hb d_Y_report_14 rfl (fun c5 => ?_) (fun c5 => ?_)
    · replace h := h.1 c5
      refine lv_aload_n hx hb d_Y_report_19 rfl (hl.at 1 rfl) ?_
      refine lv_iconst (v := (2 : Int32)) hx hb d_Y_report_20 (by decide) ?_
      refine lv_aload_n hx hb d_Y_report_21 rfl (hl.at 1 rfl) ?_
      refine z_getI hx hb hW in_9 hown hK hM t4 (by decide) rfl 29 (by decide) rfl (hW _ k_614) rfl d_Y_report_22 ?_
      refine lv_iload_n hx hb d_Y_report_25 rfl (hl.at 0 rfl) ?_
      refine lv_isub hx hb d_Y_report_26 ?_
      refine z_ctv (mc := 0) (ms := 0) (va_runV (As := [.int (2 : Int32), .int ((zI M3 a0 29) - r2)]) (rest := []) ⟨hx, hb, hml, hown, hW⟩ (c_Y_tell l ca D M3 H.size a0 (2 : Int32) ((zI M3 a0 29) - r2) _) (cw_Y_tell hW k_786 ⟨by decide, by decide⟩) (zPre_V hK hN hM h t4 (by decide) rfl) rfl rfl hl.1.1 rfl (lv_room (Nat.le_of_ble_eq_true rfl)) d_Y_report_27 ⟨by decide, by decide⟩) hM hS hA (fun M6 H locs h hM hS => ?_)
      refine lv_iconst (v := (1 : Int32)) hx hb d_Y_report_30 (by decide) ?_
      refine W.widen (k := 0) (n := 0) (by decide) (by decide) ?_
      rw [← hQ]
      exact z_zret hx hb hr hlk rfl hK hM hS h d_Y_report_31
    · replace h := h.2 c5
      refine lv_iconst (v := (0 : Int32)) hx hb d_Y_report_17 (by decide) ?_
      refine W.widen (k := 0) (n := 0) (by decide) (by decide) ?_
      rw [← hQ]
      exact z_zret hx hb hr hlk rfl hK hM hS h d_Y_report_18
  exact b_start M s.heap [] ls a0 hl hM hS h
set_option maxHeartbeats 4000000 in
set_option maxRecDepth 100000 in
theorem c_Y_notice (l : Launch) (ca : Nat → ClassId) (D : va_G) (M : zM) (sz : Nat) (a0 : Nat) (post : Int32 → zM → Prop) : Met l y_Y_notice (Cond.code y_Y_notice prog_11_method_25_code 3 (some .int) :: zws) rm_Y_notice (zPre ca D zcl (ztys ca) [.ref a0] M sz (w_Y_notice M a0 post)) (va_Qi post (zB ca D zcl (ztys ca) (zA M sz)) (zA M sz)) 0 0 (zA M sz) := by
  refine z_met (cc := prog_11_method_25_code) (maxL := 3) (ret := (some .int)) (plainFor_of_name (by decide)) rfl (by simp [Value.category]) (Nat.le_of_ble_eq_true rfl) ?_
  intro p e s m args below meth c ls A hx hb hr hlk hml hts hown hnm hK hN hl hA0 hM hS hA h
  rw [← hA0]
  have hW : ∀ w ∈ zws, w.before args s = true := fun w hw => hts w (List.mem_cons_of_mem _ hw)
  have hl : zL ls 3 [(0, .ref a0)] := hl
  generalize hQ : MQ below (va_Qi post (zB ca D zcl (ztys ca) A) A) args s 0 0 A = Q
  have b_28 : ∀ (n : Nat) (M : zM) (H : Heap) (locs : List Loc) (ls : Array Slot) (a0 : Nat) (x1 : Int32) (x2 : Int32), zL ls 3 [(0, .ref a0), (1, .int x1), (2, .int x2)] → zW ca D zcl A M H → va_S A s.heap H locs → w_Y_notice_28 post n M a0 x1 x2 → W p l e rm_Y_notice s m args below meth c H locs 0 0 Q (F0 m 28 ls []) := by
    intro n
    induction n with
    | zero =>
      intro M H locs ls a0 x1 x2 hl hM hS h
      exact False.elim h
    | succ n ih =>
      intro M H locs ls a0 x1 x2 hl hM hS h
      rw [w_Y_notice_28] at h
      refine lv_iload_n hx hb d_Y_notice_28 rfl (hl.at 2 rfl) ?_
      refine lv_aload_n hx hb d_Y_notice_29 rfl (hl.at 0 rfl) ?_
      obtain ⟨t7, h⟩ := h
      refine z_getI hx hb hW in_9 hown hK hM t7 (by decide) rfl 6 (by decide) rfl (hW _ k_591) rfl d_Y_notice_30 ?_
      refine lv_icmp_ge (tgt := 69) hx hb d_Y_notice_33 rfl (fun c8 => ?_) (fun c8 => ?_)
      · replace h := h.1 c8
        refine lv_iload_n hx hb d_Y_notice_69 rfl (hl.at 1 rfl) ?_
        rw [← hQ]
        exact z_iret hx hb hr hlk hK hM hS h d_Y_notice_70
      · replace h := h.2 c8
        refine lv_aload_n hx hb d_Y_notice_36 rfl (hl.at 0 rfl) ?_
        refine z_getR hx hb hW in_9 hown hK hM t7 (by decide) rfl 9 (by decide) rfl (hW _ k_594) rfl d_Y_notice_37 ?_
        refine lv_iload_n hx hb d_Y_notice_40 rfl (hl.at 2 rfl) ?_
        obtain ⟨b9, hb10, h⟩ := h
        rw [hb10]
        obtain ⟨n12, t11, h⟩ := h
        obtain ⟨i13, h⟩ := h
        refine z_iald hx hb hK hM t11 0 rfl i13 d_Y_notice_41 ?_
        refine lv_if_ne (tgt := 63) hx hb d_Y_notice_42 rfl (fun c14 => ?_) (fun c14 => ?_)
        · replace h := h.2 c14
          refine z_iinc (k := 2) (v := x2 + (1 : Int32)) hx hb d_Y_notice_63 hl rfl rfl (by decide) rfl (fun ls hl => ?_)
          have hl : zL ls 3 [(2, .int (x2 + (1 : Int32))), (0, .ref a0), (1, .int x1)] := hl
          refine lv_goto (tgt := 28) hx hb d_Y_notice_66 rfl ?_
          exact ih M H locs ls a0 x1 (x2 + (1 : Int32)) (hl.sub [1, 2, 0] rfl) hM hS h
        · replace h := h.1 c14
          refine lv_aload_n hx hb d_Y_notice_45 rfl (hl.at 0 rfl) ?_
          refine z_getR hx hb hW in_9 hown hK hM t7 (by decide) rfl 9 (by decide) rfl (hW _ k_594) rfl d_Y_notice_46 ?_
          refine lv_iload_n hx hb d_Y_notice_49 rfl (hl.at 2 rfl) ?_
          refine lv_bipush (v := (7 : Int32)) hx hb d_Y_notice_50 (by decide) ?_
          obtain ⟨b15, hb16, h⟩ := h
          rw [hb16]
          obtain ⟨n18, t17, h⟩ := h
          obtain ⟨i19, h⟩ := h
          refine z_iast hx hb hK hM hS t17 0 rfl i19 d_Y_notice_52 (fun H locs hM hS => ?_)
          obtain ⟨M20, e21⟩ : ∃ z, z = zwI M b15 x2.toNatClampNeg (7 : Int32) := ⟨_, rfl⟩
          replace h := h M20 e21
          rw [← e21] at hM
          refine lv_aload_n hx hb d_Y_notice_53 rfl (hl.at 0 rfl) ?_
          have t22 : zT M20 a0 = some (9, 40) := by rw [e21]; exact t7
          refine z_getR hx hb hW in_9 hown hK hM t22 (by decide) rfl 15 (by decide) rfl (hW _ k_600) rfl d_Y_notice_54 ?_
          refine lv_iload_n hx hb d_Y_notice_57 rfl (hl.at 2 rfl) ?_
          refine lv_iconst (v := (0 : Int32)) hx hb d_Y_notice_58 (by decide) ?_
          obtain ⟨b23, hb24, h⟩ := h
          rw [hb24]
          obtain ⟨n26, t25, h⟩ := h
          obtain ⟨i27, h⟩ := h
          refine z_iast hx hb hK hM hS t25 0 rfl i27 d_Y_notice_59 (fun H locs hM hS => ?_)
          obtain ⟨M28, e29⟩ : ∃ z, z = zwI M20 b23 x2.toNatClampNeg (0 : Int32) := ⟨_, rfl⟩
          replace h := h M28 e29
          rw [← e29] at hM
          refine z_iinc (k := 1) (v := x1 + (1 : Int32)) hx hb d_Y_notice_60 hl rfl rfl (by decide) rfl (fun ls hl => ?_)
          have hl : zL ls 3 [(1, .int (x1 + (1 : Int32))), (0, .ref a0), (2, .int x2)] := hl
          refine z_iinc (k := 2) (v := x2 + (1 : Int32)) hx hb d_Y_notice_63 hl rfl rfl (by decide) rfl (fun ls hl => ?_)
          have hl : zL ls 3 [(2, .int (x2 + (1 : Int32))), (1, .int (x1 + (1 : Int32))), (0, .ref a0)] := hl
          refine lv_goto (tgt := 28) hx hb d_Y_notice_66 rfl ?_
          exact ih M28 H locs ls a0 (x1 + (1 : Int32)) (x2 + (1 : Int32)) (hl.sub [2, 1, 0] rfl) hM hS h
  have b_start : ∀ (M : zM) (H : Heap) (locs : List Loc) (ls : Array Slot) (a0 : Nat), zL ls 3 [(0, .ref a0)] → zW ca D zcl A M H → va_S A s.heap H locs → w_Y_notice M a0 post → W p l e rm_Y_notice s m args below meth c H locs 0 0 Q (F0 m 0 ls []) := by
    intro M H locs ls a0 hl hM hS h
    unfold w_Y_notice at h
    refine lv_aload_n hx hb d_Y_notice_0 rfl (hl.at 0 rfl) ?_
    obtain ⟨t1, h⟩ := h
    refine z_getI hx hb hW in_9 hown hK hM t1 (by decide) rfl 36 (by decide) rfl (hW _ k_621) rfl d_Y_notice_1 ?_
    refine lv_if_eq (tgt := 14) hx hb d_Y_notice_4 rfl (fun c2 => ?_) (fun c2 => ?_)
    · replace h := h.1 c2
      refine lv_iconst (v := (-1 : Int32)) hx hb d_Y_notice_14 (by decide) ?_
      rw [← hQ]
      exact z_iret hx hb hr hlk hK hM hS h d_Y_notice_15
    · replace h := h.2 c2
      refine lv_aload_n hx hb d_Y_notice_7 rfl (hl.at 0 rfl) ?_
      refine z_getI hx hb hW in_9 hown hK hM t1 (by decide) rfl 37 (by decide) rfl (hW _ k_622) rfl d_Y_notice_8 ?_
      refine lv_if_eq (tgt := 16) hx hb d_Y_notice_11 rfl (fun c3 => ?_) (fun c3 => ?_)
      · replace h := h.1 c3
        refine lv_aload_n hx hb d_Y_notice_16 rfl (hl.at 0 rfl) ?_
        refine lv_iconst (v := (1 : Int32)) hx hb d_Y_notice_17 (by decide) ?_
        refine z_putI hx hb hW in_9 ty_9 tyok_9 nm_9 hown hK hM hS t1 (by decide) rfl 37 (by decide) rfl (hW _ k_622) rfl (Or.inl rfl) rfl rfl d_Y_notice_18 (fun H locs hM hS => ?_)
        obtain ⟨M4, e5⟩ : ∃ z, z = zwI M a0 37 (1 : Int32) := ⟨_, rfl⟩
        replace h := h M4 e5
        rw [← e5] at hM
        refine lv_iconst (v := (0 : Int32)) hx hb d_Y_notice_21 (by decide) ?_
        refine z_istore_n hx hb d_Y_notice_22 rfl hl (by decide) rfl (fun ls hl => ?_)
        have hl : zL ls 3 [(1, .int (0 : Int32)), (0, .ref a0)] := hl
        refine lv_aload_n hx hb d_Y_notice_23 rfl (hl.at 1 rfl) ?_
        have t6 : zT M4 a0 = some (9, 40) := by rw [e5]; exact t1
        refine z_getI hx hb hW in_9 hown hK hM t6 (by decide) rfl 38 (by decide) rfl (hW _ k_623) rfl d_Y_notice_24 ?_
        refine z_istore_n hx hb d_Y_notice_27 rfl hl (by decide) rfl (fun ls hl => ?_)
        have hl : zL ls 3 [(2, .int (zI M4 a0 38)), (1, .int (0 : Int32)), (0, .ref a0)] := hl
        obtain ⟨n30, h⟩ := h
        exact b_28 n30 M4 H locs ls a0 (0 : Int32) (zI M4 a0 38) (hl.sub [2, 1, 0] rfl) hM hS h
      · replace h := h.2 c3
        refine lv_iconst (v := (-1 : Int32)) hx hb d_Y_notice_14 (by decide) ?_
        rw [← hQ]
        exact z_iret hx hb hr hlk hK hM hS h d_Y_notice_15
  exact b_start M s.heap [] ls a0 hl hM hS h
set_option maxHeartbeats 4000000 in
set_option maxRecDepth 100000 in
theorem c_Y_cancel (l : Launch) (ca : Nat → ClassId) (D : va_G) (M : zM) (sz : Nat) (a0 : Nat) (x1 : Int32) (post : Int32 → zM → Prop) : Met l y_Y_cancel (Cond.code y_Y_cancel prog_11_method_26_code 2 (some .boolean) :: zws) rm_Y_cancel (zPre ca D zcl (ztys ca) [.ref a0, .int x1] M sz (w_Y_cancel M a0 x1 post)) (va_Qi post (zB ca D zcl (ztys ca) (zA M sz)) (zA M sz)) 0 0 (zA M sz) := by
  refine z_met (cc := prog_11_method_26_code) (maxL := 2) (ret := (some .boolean)) (plainFor_of_name (by decide)) rfl (by simp [Value.category]) (Nat.le_of_ble_eq_true rfl) ?_
  intro p e s m args below meth c ls A hx hb hr hlk hml hts hown hnm hK hN hl hA0 hM hS hA h
  rw [← hA0]
  have hW : ∀ w ∈ zws, w.before args s = true := fun w hw => hts w (List.mem_cons_of_mem _ hw)
  have hl : zL ls 2 [(0, .ref a0), (1, .int x1)] := hl
  generalize hQ : MQ below (va_Qi post (zB ca D zcl (ztys ca) A) A) args s 0 0 A = Q
  have b_start : ∀ (M : zM) (H : Heap) (locs : List Loc) (ls : Array Slot) (a0 : Nat) (x1 : Int32), zL ls 2 [(0, .ref a0), (1, .int x1)] → zW ca D zcl A M H → va_S A s.heap H locs → w_Y_cancel M a0 x1 post → W p l e rm_Y_cancel s m args below meth c H locs 0 0 Q (F0 m 0 ls []) := by
    intro M H locs ls a0 x1 hl hM hS h
    unfold w_Y_cancel at h
    refine lv_iload_n hx hb d_Y_cancel_0 rfl (hl.at 1 rfl) ?_
    refine lv_aload_n hx hb d_Y_cancel_1 rfl (hl.at 0 rfl) ?_
    obtain ⟨t1, h⟩ := h
    refine z_getI hx hb hW in_9 hown hK hM t1 (by decide) rfl 6 (by decide) rfl (hW _ k_591) rfl d_Y_cancel_2 ?_
    refine lv_iconst (v := (1 : Int32)) hx hb d_Y_cancel_5 (by decide) ?_
    refine lv_isub hx hb d_Y_cancel_6 ?_
    refine z_cti (mc := 0) (ms := 0) (va_runS (As := [.int x1, .int ((zI M a0 6) - (1 : Int32))]) (rest := []) ⟨hx, hb, hml, hown, hW⟩ (c_Y_within l ca D M H.size x1 ((zI M a0 6) - (1 : Int32)) _) (cw_Y_within hW k_711 ⟨by decide, by decide⟩) (zPre_S hK hN hM h) rfl rfl hl.1.1 rfl (lv_room (Nat.le_of_ble_eq_true rfl)) d_Y_cancel_7 ⟨by decide, by decide⟩) hM hS hA (fun r2 M3 H locs h hM hS => ?_)
    refine lv_if_eq (tgt := 22) hx hb d_Y_cancel_10 rfl (fun c4 => ?_) (fun c4 => ?_)
    · replace h := h.1 c4
      refine lv_iconst (v := (0 : Int32)) hx hb d_Y_cancel_22 (by decide) ?_
      refine W.widen (k := 0) (n := 0) (by decide) (by decide) ?_
      rw [← hQ]
      exact z_zret hx hb hr hlk rfl hK hM hS h d_Y_cancel_23
    · replace h := h.2 c4
      refine lv_aload_n hx hb d_Y_cancel_13 rfl (hl.at 0 rfl) ?_
      obtain ⟨t5, h⟩ := h
      refine z_getR hx hb hW in_9 hown hK hM t5 (by decide) rfl 9 (by decide) rfl (hW _ k_594) rfl d_Y_cancel_14 ?_
      refine lv_iload_n hx hb d_Y_cancel_17 rfl (hl.at 1 rfl) ?_
      obtain ⟨b6, hb7, h⟩ := h
      rw [hb7]
      obtain ⟨n9, t8, h⟩ := h
      obtain ⟨i10, h⟩ := h
      refine z_iald hx hb hK hM t8 0 rfl i10 d_Y_cancel_18 ?_
      refine lv_if_eq (tgt := 24) hx hb d_Y_cancel_19 rfl (fun c11 => ?_) (fun c11 => ?_)
      · replace h := h.1 c11
        refine lv_aload_n hx hb d_Y_cancel_24 rfl (hl.at 0 rfl) ?_
        refine z_getR hx hb hW in_9 hown hK hM t5 (by decide) rfl 9 (by decide) rfl (hW _ k_594) rfl d_Y_cancel_25 ?_
        refine lv_iload_n hx hb d_Y_cancel_28 rfl (hl.at 1 rfl) ?_
        refine lv_bipush (v := (6 : Int32)) hx hb d_Y_cancel_29 (by decide) ?_
        obtain ⟨b12, hb13, h⟩ := h
        rw [hb13]
        obtain ⟨n15, t14, h⟩ := h
        obtain ⟨i16, h⟩ := h
        refine z_iast hx hb hK hM hS t14 0 rfl i16 d_Y_cancel_31 (fun H locs hM hS => ?_)
        obtain ⟨M17, e18⟩ : ∃ z, z = zwI M3 b12 x1.toNatClampNeg (6 : Int32) := ⟨_, rfl⟩
        replace h := h M17 e18
        rw [← e18] at hM
        refine lv_aload_n hx hb d_Y_cancel_32 rfl (hl.at 0 rfl) ?_
        have t19 : zT M17 a0 = some (9, 40) := by rw [e18]; exact t5
        refine z_getR hx hb hW in_9 hown hK hM t19 (by decide) rfl 15 (by decide) rfl (hW _ k_600) rfl d_Y_cancel_33 ?_
        refine lv_iload_n hx hb d_Y_cancel_36 rfl (hl.at 1 rfl) ?_
        refine lv_iconst (v := (0 : Int32)) hx hb d_Y_cancel_37 (by decide) ?_
        obtain ⟨b20, hb21, h⟩ := h
        rw [hb21]
        obtain ⟨n23, t22, h⟩ := h
        obtain ⟨i24, h⟩ := h
        refine z_iast hx hb hK hM hS t22 0 rfl i24 d_Y_cancel_38 (fun H locs hM hS => ?_)
        obtain ⟨M25, e26⟩ : ∃ z, z = zwI M17 b20 x1.toNatClampNeg (0 : Int32) := ⟨_, rfl⟩
        replace h := h M25 e26
        rw [← e26] at hM
        refine lv_aload_n hx hb d_Y_cancel_39 rfl (hl.at 0 rfl) ?_
        refine lv_iconst (v := (1 : Int32)) hx hb d_Y_cancel_40 (by decide) ?_
        refine lv_iload_n hx hb d_Y_cancel_41 rfl (hl.at 1 rfl) ?_
        have t27 : zT M25 a0 = some (9, 40) := by rw [e26]; exact t19
        refine z_ctv (mc := 0) (ms := 0) (va_runV (As := [.int (1 : Int32), .int x1]) (rest := []) ⟨hx, hb, hml, hown, hW⟩ (c_Y_tell l ca D M25 H.size a0 (1 : Int32) x1 _) (cw_Y_tell hW k_786 ⟨by decide, by decide⟩) (zPre_V hK hN hM h t27 (by decide) rfl) rfl rfl hl.1.1 rfl (lv_room (Nat.le_of_ble_eq_true rfl)) d_Y_cancel_42 ⟨by decide, by decide⟩) hM hS hA (fun M28 H locs h hM hS => ?_)
        refine lv_iconst (v := (1 : Int32)) hx hb d_Y_cancel_45 (by decide) ?_
        refine W.widen (k := 0) (n := 0) (by decide) (by decide) ?_
        rw [← hQ]
        exact z_zret hx hb hr hlk rfl hK hM hS h d_Y_cancel_46
      · replace h := h.2 c11
        refine lv_iconst (v := (0 : Int32)) hx hb d_Y_cancel_22 (by decide) ?_
        refine W.widen (k := 0) (n := 0) (by decide) (by decide) ?_
        rw [← hQ]
        exact z_zret hx hb hr hlk rfl hK hM hS h d_Y_cancel_23
  exact b_start M s.heap [] ls a0 x1 hl hM hS h
set_option maxHeartbeats 4000000 in
set_option maxRecDepth 100000 in
theorem c_Y_tick (l : Launch) (ca : Nat → ClassId) (D : va_G) (M : zM) (sz : Nat) (a0 : Nat) (x1 : Int32) (post : Int32 → zM → Prop) : Met l y_Y_tick (Cond.code y_Y_tick prog_11_method_27_code 2 (some .boolean) :: zws) rm_Y_tick (zPre ca D zcl (ztys ca) [.ref a0, .int x1] M sz (w_Y_tick M a0 x1 post)) (va_Qi post (zB ca D zcl (ztys ca) (zA M sz)) (zA M sz)) 0 0 (zA M sz) := by
  refine z_met (cc := prog_11_method_27_code) (maxL := 2) (ret := (some .boolean)) (plainFor_of_name (by decide)) rfl (by simp [Value.category]) (Nat.le_of_ble_eq_true rfl) ?_
  intro p e s m args below meth c ls A hx hb hr hlk hml hts hown hnm hK hN hl hA0 hM hS hA h
  rw [← hA0]
  have hW : ∀ w ∈ zws, w.before args s = true := fun w hw => hts w (List.mem_cons_of_mem _ hw)
  have hl : zL ls 2 [(0, .ref a0), (1, .int x1)] := hl
  generalize hQ : MQ below (va_Qi post (zB ca D zcl (ztys ca) A) A) args s 0 0 A = Q
  have b_start : ∀ (M : zM) (H : Heap) (locs : List Loc) (ls : Array Slot) (a0 : Nat) (x1 : Int32), zL ls 2 [(0, .ref a0), (1, .int x1)] → zW ca D zcl A M H → va_S A s.heap H locs → w_Y_tick M a0 x1 post → W p l e rm_Y_tick s m args below meth c H locs 0 0 Q (F0 m 0 ls []) := by
    intro M H locs ls a0 x1 hl hM hS h
    unfold w_Y_tick at h
    refine lv_iload_n hx hb d_Y_tick_0 rfl (hl.at 1 rfl) ?_
    refine lv_sipush (v := (1000 : Int32)) hx hb d_Y_tick_1 (by decide) ?_
    refine z_cti (mc := 0) (ms := 0) (va_runS (As := [.int x1, .int (1000 : Int32)]) (rest := []) ⟨hx, hb, hml, hown, hW⟩ (c_Y_within l ca D M H.size x1 (1000 : Int32) _) (cw_Y_within hW k_711 ⟨by decide, by decide⟩) (zPre_S hK hN hM h) rfl rfl hl.1.1 rfl (lv_room (Nat.le_of_ble_eq_true rfl)) d_Y_tick_4 ⟨by decide, by decide⟩) hM hS hA (fun r1 M2 H locs h hM hS => ?_)
    refine lv_if_ne (tgt := 12) hx hb d_Y_tick_7 rfl (fun c3 => ?_) (fun c3 => ?_)
    · replace h := h.2 c3
      refine lv_aload_n hx hb d_Y_tick_12 rfl (hl.at 0 rfl) ?_
      refine lv_aload_n hx hb d_Y_tick_13 rfl (hl.at 0 rfl) ?_
      obtain ⟨t4, h⟩ := h
      refine z_getI hx hb hW in_9 hown hK hM t4 (by decide) rfl 5 (by decide) rfl (hW _ k_590) rfl d_Y_tick_14 ?_
      refine lv_iload_n hx hb d_Y_tick_17 rfl (hl.at 1 rfl) ?_
      refine lv_iadd hx hb d_Y_tick_18 ?_
      refine z_putI hx hb hW in_9 ty_9 tyok_9 nm_9 hown hK hM hS t4 (by decide) rfl 5 (by decide) rfl (hW _ k_590) rfl (Or.inl rfl) rfl rfl d_Y_tick_19 (fun H locs hM hS => ?_)
      obtain ⟨M5, e6⟩ : ∃ z, z = zwI M2 a0 5 ((zI M2 a0 5) + x1) := ⟨_, rfl⟩
      replace h := h M5 e6
      rw [← e6] at hM
      refine lv_iconst (v := (1 : Int32)) hx hb d_Y_tick_22 (by decide) ?_
      refine W.widen (k := 0) (n := 0) (by decide) (by decide) ?_
      rw [← hQ]
      exact z_zret hx hb hr hlk rfl hK hM hS h d_Y_tick_23
    · replace h := h.1 c3
      refine lv_iconst (v := (0 : Int32)) hx hb d_Y_tick_10 (by decide) ?_
      refine W.widen (k := 0) (n := 0) (by decide) (by decide) ?_
      rw [← hQ]
      exact z_zret hx hb hr hlk rfl hK hM hS h d_Y_tick_11
  exact b_start M s.heap [] ls a0 x1 hl hM hS h
set_option maxHeartbeats 4000000 in
set_option maxRecDepth 100000 in
theorem c_Y_outcome (l : Launch) (ca : Nat → ClassId) (D : va_G) (M : zM) (sz : Nat) (a0 : Nat) (x1 : Int32) (post : Int32 → zM → Prop) : Met l y_Y_outcome (Cond.code y_Y_outcome prog_11_method_28_code 2 (some .int) :: zws) rm_Y_outcome (zPre ca D zcl (ztys ca) [.ref a0, .int x1] M sz (w_Y_outcome M a0 x1 post)) (va_Qi post (zB ca D zcl (ztys ca) (zA M sz)) (zA M sz)) 0 0 (zA M sz) := by
  refine z_met (cc := prog_11_method_28_code) (maxL := 2) (ret := (some .int)) (plainFor_of_name (by decide)) rfl (by simp [Value.category]) (Nat.le_of_ble_eq_true rfl) ?_
  intro p e s m args below meth c ls A hx hb hr hlk hml hts hown hnm hK hN hl hA0 hM hS hA h
  rw [← hA0]
  have hW : ∀ w ∈ zws, w.before args s = true := fun w hw => hts w (List.mem_cons_of_mem _ hw)
  have hl : zL ls 2 [(0, .ref a0), (1, .int x1)] := hl
  generalize hQ : MQ below (va_Qi post (zB ca D zcl (ztys ca) A) A) args s 0 0 A = Q
  have b_start : ∀ (M : zM) (H : Heap) (locs : List Loc) (ls : Array Slot) (a0 : Nat) (x1 : Int32), zL ls 2 [(0, .ref a0), (1, .int x1)] → zW ca D zcl A M H → va_S A s.heap H locs → w_Y_outcome M a0 x1 post → W p l e rm_Y_outcome s m args below meth c H locs 0 0 Q (F0 m 0 ls []) := by
    intro M H locs ls a0 x1 hl hM hS h
    unfold w_Y_outcome at h
    refine lv_iload_n hx hb d_Y_outcome_0 rfl (hl.at 1 rfl) ?_
    refine lv_aload_n hx hb d_Y_outcome_1 rfl (hl.at 0 rfl) ?_
    obtain ⟨t1, h⟩ := h
    refine z_getI hx hb hW in_9 hown hK hM t1 (by decide) rfl 6 (by decide) rfl (hW _ k_591) rfl d_Y_outcome_2 ?_
    refine lv_iconst (v := (1 : Int32)) hx hb d_Y_outcome_5 (by decide) ?_
    refine lv_isub hx hb d_Y_outcome_6 ?_
    refine z_cti (mc := 0) (ms := 0) (va_runS (As := [.int x1, .int ((zI M a0 6) - (1 : Int32))]) (rest := []) ⟨hx, hb, hml, hown, hW⟩ (c_Y_within l ca D M H.size x1 ((zI M a0 6) - (1 : Int32)) _) (cw_Y_within hW k_711 ⟨by decide, by decide⟩) (zPre_S hK hN hM h) rfl rfl hl.1.1 rfl (lv_room (Nat.le_of_ble_eq_true rfl)) d_Y_outcome_7 ⟨by decide, by decide⟩) hM hS hA (fun r2 M3 H locs h hM hS => ?_)
    refine lv_if_eq (tgt := 22) hx hb d_Y_outcome_10 rfl (fun c4 => ?_) (fun c4 => ?_)
    · replace h := h.1 c4
      refine lv_iconst (v := (-1 : Int32)) hx hb d_Y_outcome_22 (by decide) ?_
      refine W.widen (k := 0) (n := 0) (by decide) (by decide) ?_
      rw [← hQ]
      exact z_iret hx hb hr hlk hK hM hS h d_Y_outcome_23
    · replace h := h.2 c4
      refine lv_aload_n hx hb d_Y_outcome_13 rfl (hl.at 0 rfl) ?_
      obtain ⟨t5, h⟩ := h
      refine z_getR hx hb hW in_9 hown hK hM t5 (by decide) rfl 9 (by decide) rfl (hW _ k_594) rfl d_Y_outcome_14 ?_
      refine lv_iload_n hx hb d_Y_outcome_17 rfl (hl.at 1 rfl) ?_
      obtain ⟨b6, hb7, h⟩ := h
      rw [hb7]
      obtain ⟨n9, t8, h⟩ := h
      obtain ⟨i10, h⟩ := h
      refine z_iald hx hb hK hM t8 0 rfl i10 d_Y_outcome_18 ?_
      refine lv_goto (tgt := 23) hx hb d_Y_outcome_19 rfl ?_
      refine W.widen (k := 0) (n := 0) (by decide) (by decide) ?_
      rw [← hQ]
      exact z_iret hx hb hr hlk hK hM hS h d_Y_outcome_23
  exact b_start M s.heap [] ls a0 x1 hl hM hS h
set_option maxHeartbeats 4000000 in
set_option maxRecDepth 100000 in
theorem c_Y_content (l : Launch) (ca : Nat → ClassId) (D : va_G) (M : zM) (sz : Nat) (a0 : Nat) (x1 : Int32) (post : Int32 → zM → Prop) : Met l y_Y_content (Cond.code y_Y_content prog_11_method_29_code 3 (some .int) :: zws) rm_Y_content (zPre ca D zcl (ztys ca) [.ref a0, .int x1] M sz (w_Y_content M a0 x1 post)) (va_Qi post (zB ca D zcl (ztys ca) (zA M sz)) (zA M sz)) 0 0 (zA M sz) := by
  refine z_met (cc := prog_11_method_29_code) (maxL := 3) (ret := (some .int)) (plainFor_of_name (by decide)) rfl (by simp [Value.category]) (Nat.le_of_ble_eq_true rfl) ?_
  intro p e s m args below meth c ls A hx hb hr hlk hml hts hown hnm hK hN hl hA0 hM hS hA h
  rw [← hA0]
  have hW : ∀ w ∈ zws, w.before args s = true := fun w hw => hts w (List.mem_cons_of_mem _ hw)
  have hl : zL ls 3 [(0, .ref a0), (1, .int x1)] := hl
  generalize hQ : MQ below (va_Qi post (zB ca D zcl (ztys ca) A) A) args s 0 0 A = Q
  have b_start : ∀ (M : zM) (H : Heap) (locs : List Loc) (ls : Array Slot) (a0 : Nat) (x1 : Int32), zL ls 3 [(0, .ref a0), (1, .int x1)] → zW ca D zcl A M H → va_S A s.heap H locs → w_Y_content M a0 x1 post → W p l e rm_Y_content s m args below meth c H locs 0 0 Q (F0 m 0 ls []) := by
    intro M H locs ls a0 x1 hl hM hS h
    unfold w_Y_content at h
    refine lv_iload_n hx hb d_Y_content_0 rfl (hl.at 1 rfl) ?_
    refine lv_aload_n hx hb d_Y_content_1 rfl (hl.at 0 rfl) ?_
    obtain ⟨t1, h⟩ := h
    refine z_getI hx hb hW in_9 hown hK hM t1 (by decide) rfl 6 (by decide) rfl (hW _ k_591) rfl d_Y_content_2 ?_
    refine lv_iconst (v := (1 : Int32)) hx hb d_Y_content_5 (by decide) ?_
    refine lv_isub hx hb d_Y_content_6 ?_
    refine z_cti (mc := 0) (ms := 0) (va_runS (As := [.int x1, .int ((zI M a0 6) - (1 : Int32))]) (rest := []) ⟨hx, hb, hml, hown, hW⟩ (c_Y_within l ca D M H.size x1 ((zI M a0 6) - (1 : Int32)) _) (cw_Y_within hW k_711 ⟨by decide, by decide⟩) (zPre_S hK hN hM h) rfl rfl hl.1.1 rfl (lv_room (Nat.le_of_ble_eq_true rfl)) d_Y_content_7 ⟨by decide, by decide⟩) hM hS hA (fun r2 M3 H locs h hM hS => ?_)
    refine lv_if_ne (tgt := 15) hx hb d_Y_content_10 rfl (fun c4 => ?_) (fun c4 => ?_)
    · replace h := h.2 c4
      refine lv_aload_n hx hb d_Y_content_15 rfl (hl.at 0 rfl) ?_
      obtain ⟨t5, h⟩ := h
      refine z_getR hx hb hW in_9 hown hK hM t5 (by decide) rfl 9 (by decide) rfl (hW _ k_594) rfl d_Y_content_16 ?_
      refine lv_iload_n hx hb d_Y_content_19 rfl (hl.at 1 rfl) ?_
      obtain ⟨b6, hb7, h⟩ := h
      rw [hb7]
      obtain ⟨n9, t8, h⟩ := h
      obtain ⟨i10, h⟩ := h
      refine z_iald hx hb hK hM t8 0 rfl i10 d_Y_content_20 ?_
      refine z_istore_n hx hb d_Y_content_21 rfl hl (by decide) rfl (fun ls hl => ?_)
      have hl : zL ls 3 [(2, .int (zI M3 b6 x1.toNatClampNeg)), (0, .ref a0), (1, .int x1)] := hl
      refine lv_iload_n hx hb d_Y_content_22 rfl (hl.at 0 rfl) ?_
      refine lv_iconst (v := (1 : Int32)) hx hb d_Y_content_23 (by decide) ?_
      refine lv_icmp_eq (tgt := 38) hx hb d_Y_content_24 rfl (fun c11 => ?_) (fun c11 => ?_)
      · replace h := h.1 c11
        refine lv_aload_n hx hb d_Y_content_38 rfl (hl.at 1 rfl) ?_
        refine z_getR hx hb hW in_9 hown hK hM t5 (by decide) rfl 14 (by decide) rfl (hW _ k_599) rfl d_Y_content_39 ?_
        refine lv_iload_n hx hb d_Y_content_42 rfl (hl.at 2 rfl) ?_
        obtain ⟨b12, hb13, h⟩ := h
        rw [hb13]
        obtain ⟨n15, t14, h⟩ := h
        obtain ⟨i16, h⟩ := h
        refine z_iald hx hb hK hM t14 0 rfl i16 d_Y_content_43 ?_
        refine lv_goto (tgt := 48) hx hb d_Y_content_44 rfl ?_
        refine W.widen (k := 0) (n := 0) (by decide) (by decide) ?_
        rw [← hQ]
        exact z_iret hx hb hr hlk hK hM hS h d_Y_content_48
      · replace h := h.2 c11
        refine lv_iload_n hx hb d_Y_content_27 rfl (hl.at 0 rfl) ?_
        refine lv_iconst (v := (2 : Int32)) hx hb d_Y_content_28 (by decide) ?_
        refine lv_icmp_eq (tgt := 38) hx hb d_Y_content_29 rfl (fun c17 => ?_) (fun c17 => ?_)
        · replace h := h.1 c17
          refine lv_aload_n hx hb d_Y_content_38 rfl (hl.at 1 rfl) ?_
          refine z_getR hx hb hW in_9 hown hK hM t5 (by decide) rfl 14 (by decide) rfl (hW _ k_599) rfl d_Y_content_39 ?_
          refine lv_iload_n hx hb d_Y_content_42 rfl (hl.at 2 rfl) ?_
          obtain ⟨b18, hb19, h⟩ := h
          rw [hb19]
          obtain ⟨n21, t20, h⟩ := h
          obtain ⟨i22, h⟩ := h
          refine z_iald hx hb hK hM t20 0 rfl i22 d_Y_content_43 ?_
          refine lv_goto (tgt := 48) hx hb d_Y_content_44 rfl ?_
          refine W.widen (k := 0) (n := 0) (by decide) (by decide) ?_
          rw [← hQ]
          exact z_iret hx hb hr hlk hK hM hS h d_Y_content_48
        · replace h := h.2 c17
          refine lv_iload_n hx hb d_Y_content_32 rfl (hl.at 0 rfl) ?_
          refine lv_bipush (v := (8 : Int32)) hx hb d_Y_content_33 (by decide) ?_
          refine lv_icmp_ne (tgt := 47) hx hb d_Y_content_35 rfl (fun c23 => ?_) (fun c23 => ?_)
          · replace h := h.2 c23
            refine lv_iconst (v := (0 : Int32)) hx hb d_Y_content_47 (by decide) ?_
            refine W.widen (k := 0) (n := 0) (by decide) (by decide) ?_
            rw [← hQ]
            exact z_iret hx hb hr hlk hK hM hS h d_Y_content_48
          · replace h := h.1 c23
            refine lv_aload_n hx hb d_Y_content_38 rfl (hl.at 1 rfl) ?_
            refine z_getR hx hb hW in_9 hown hK hM t5 (by decide) rfl 14 (by decide) rfl (hW _ k_599) rfl d_Y_content_39 ?_
            refine lv_iload_n hx hb d_Y_content_42 rfl (hl.at 2 rfl) ?_
            obtain ⟨b24, hb25, h⟩ := h
            rw [hb25]
            obtain ⟨n27, t26, h⟩ := h
            obtain ⟨i28, h⟩ := h
            refine z_iald hx hb hK hM t26 0 rfl i28 d_Y_content_43 ?_
            refine lv_goto (tgt := 48) hx hb d_Y_content_44 rfl ?_
            refine W.widen (k := 0) (n := 0) (by decide) (by decide) ?_
            rw [← hQ]
            exact z_iret hx hb hr hlk hK hM hS h d_Y_content_48
    · replace h := h.1 c4
      refine lv_iconst (v := (-1 : Int32)) hx hb d_Y_content_13 (by decide) ?_
      refine W.widen (k := 0) (n := 0) (by decide) (by decide) ?_
      rw [← hQ]
      exact z_iret hx hb hr hlk hK hM hS h d_Y_content_14
  exact b_start M s.heap [] ls a0 x1 hl hM hS h
set_option maxHeartbeats 4000000 in
set_option maxRecDepth 100000 in
theorem c_Y_stored (l : Launch) (ca : Nat → ClassId) (D : va_G) (M : zM) (sz : Nat) (a0 : Nat) (x1 : Int32) (x2 : Int32) (post : Int32 → zM → Prop) : Met l y_Y_stored (Cond.code y_Y_stored prog_11_method_30_code 4 (some .int) :: zws) rm_Y_stored (zPre ca D zcl (ztys ca) [.ref a0, .int x1, .int x2] M sz (w_Y_stored M a0 x1 x2 post)) (va_Qi post (zB ca D zcl (ztys ca) (zA M sz)) (zA M sz)) 0 0 (zA M sz) := by
  refine z_met (cc := prog_11_method_30_code) (maxL := 4) (ret := (some .int)) (plainFor_of_name (by decide)) rfl (by simp [Value.category]) (Nat.le_of_ble_eq_true rfl) ?_
  intro p e s m args below meth c ls A hx hb hr hlk hml hts hown hnm hK hN hl hA0 hM hS hA h
  rw [← hA0]
  have hW : ∀ w ∈ zws, w.before args s = true := fun w hw => hts w (List.mem_cons_of_mem _ hw)
  have hl : zL ls 4 [(0, .ref a0), (1, .int x1), (2, .int x2)] := hl
  generalize hQ : MQ below (va_Qi post (zB ca D zcl (ztys ca) A) A) args s 0 0 A = Q
  have b_start : ∀ (M : zM) (H : Heap) (locs : List Loc) (ls : Array Slot) (a0 : Nat) (x1 : Int32) (x2 : Int32), zL ls 4 [(0, .ref a0), (1, .int x1), (2, .int x2)] → zW ca D zcl A M H → va_S A s.heap H locs → w_Y_stored M a0 x1 x2 post → W p l e rm_Y_stored s m args below meth c H locs 0 0 Q (F0 m 0 ls []) := by
    intro M H locs ls a0 x1 x2 hl hM hS h
    unfold w_Y_stored at h
    refine lv_iload_n hx hb d_Y_stored_0 rfl (hl.at 1 rfl) ?_
    refine lv_iconst (v := (5 : Int32)) hx hb d_Y_stored_1 (by decide) ?_
    refine z_cti (mc := 0) (ms := 0) (va_runS (As := [.int x1, .int (5 : Int32)]) (rest := []) ⟨hx, hb, hml, hown, hW⟩ (c_Y_within l ca D M H.size x1 (5 : Int32) _) (cw_Y_within hW k_711 ⟨by decide, by decide⟩) (zPre_S hK hN hM h) rfl rfl hl.1.1 rfl (lv_room (Nat.le_of_ble_eq_true rfl)) d_Y_stored_2 ⟨by decide, by decide⟩) hM hS hA (fun r1 M2 H locs h hM hS => ?_)
    refine lv_if_eq (tgt := 25) hx hb d_Y_stored_5 rfl (fun c3 => ?_) (fun c3 => ?_)
    · replace h := h.1 c3
      refine lv_iconst (v := (-1 : Int32)) hx hb d_Y_stored_25 (by decide) ?_
      refine W.widen (k := 0) (n := 0) (by decide) (by decide) ?_
      rw [← hQ]
      exact z_iret hx hb hr hlk hK hM hS h d_Y_stored_26
    · replace h := h.2 c3
      refine lv_iload_n hx hb d_Y_stored_8 rfl (hl.at 2 rfl) ?_
      refine lv_iconst (v := (3 : Int32)) hx hb d_Y_stored_9 (by decide) ?_
      refine z_cti (mc := 0) (ms := 0) (va_runS (As := [.int x2, .int (3 : Int32)]) (rest := []) ⟨hx, hb, hml, hown, hW⟩ (c_Y_within l ca D M2 H.size x2 (3 : Int32) _) (cw_Y_within hW k_711 ⟨by decide, by decide⟩) (zPre_S hK hN hM h) rfl rfl hl.1.1 rfl (lv_room (Nat.le_of_ble_eq_true rfl)) d_Y_stored_10 ⟨by decide, by decide⟩) hM hS hA (fun r4 M5 H locs h hM hS => ?_)
      refine lv_if_eq (tgt := 25) hx hb d_Y_stored_13 rfl (fun c6 => ?_) (fun c6 => ?_)
      · replace h := h.1 c6
        refine lv_iconst (v := (-1 : Int32)) hx hb d_Y_stored_25 (by decide) ?_
        refine W.widen (k := 0) (n := 0) (by decide) (by decide) ?_
        rw [← hQ]
        exact z_iret hx hb hr hlk hK hM hS h d_Y_stored_26
      · replace h := h.2 c6
        refine lv_aload_n hx hb d_Y_stored_16 rfl (hl.at 0 rfl) ?_
        obtain ⟨t7, h⟩ := h
        refine z_getR hx hb hW in_9 hown hK hM t7 (by decide) rfl 21 (by decide) rfl (hW _ k_606) rfl d_Y_stored_17 ?_
        refine lv_iload_n hx hb d_Y_stored_20 rfl (hl.at 1 rfl) ?_
        obtain ⟨b8, hb9, h⟩ := h
        rw [hb9]
        obtain ⟨n11, t10, h⟩ := h
        obtain ⟨i12, h⟩ := h
        refine z_iald hx hb hK hM t10 0 rfl i12 d_Y_stored_21 ?_
        refine lv_if_ge (tgt := 27) hx hb d_Y_stored_22 rfl (fun c13 => ?_) (fun c13 => ?_)
        · replace h := h.1 c13
          refine lv_aload_n hx hb d_Y_stored_27 rfl (hl.at 0 rfl) ?_
          refine z_getR hx hb hW in_9 hown hK hM t7 (by decide) rfl 24 (by decide) rfl (hW _ k_609) rfl d_Y_stored_28 ?_
          refine lv_iload_n hx hb d_Y_stored_31 rfl (hl.at 1 rfl) ?_
          obtain ⟨b14, hb15, h⟩ := h
          rw [hb15]
          obtain ⟨n17, t16, h⟩ := h
          obtain ⟨i18, h⟩ := h
          refine z_iald hx hb hK hM t16 0 rfl i18 d_Y_stored_32 ?_
          refine lv_aload_n hx hb d_Y_stored_33 rfl (hl.at 0 rfl) ?_
          refine z_getI hx hb hW in_9 hown hK hM t7 (by decide) rfl 5 (by decide) rfl (hW _ k_590) rfl d_Y_stored_34 ?_
          refine lv_aload_n hx hb d_Y_stored_37 rfl (hl.at 0 rfl) ?_
          refine z_getR hx hb hW in_9 hown hK hM t7 (by decide) rfl 25 (by decide) rfl (hW _ k_610) rfl d_Y_stored_38 ?_
          refine lv_iload_n hx hb d_Y_stored_41 rfl (hl.at 1 rfl) ?_
          obtain ⟨b19, hb20, h⟩ := h
          rw [hb20]
          obtain ⟨n22, t21, h⟩ := h
          obtain ⟨i23, h⟩ := h
          refine z_iald hx hb hK hM t21 0 rfl i23 d_Y_stored_42 ?_
          refine lv_isub hx hb d_Y_stored_43 ?_
          refine lv_isub hx hb d_Y_stored_44 ?_
          refine z_istore_n hx hb d_Y_stored_45 rfl hl (by decide) rfl (fun ls hl => ?_)
          have hl : zL ls 4 [(3, .int ((zI M5 b14 x1.toNatClampNeg) - ((zI M5 a0 5) - (zI M5 b19 x1.toNatClampNeg)))), (0, .ref a0), (1, .int x1), (2, .int x2)] := hl
          refine lv_iload_n hx hb d_Y_stored_46 rfl (hl.at 3 rfl) ?_
          refine lv_if_ne (tgt := 59) hx hb d_Y_stored_47 rfl (fun c24 => ?_) (fun c24 => ?_)
          · replace h := h.2 c24
            refine lv_iload_n hx hb d_Y_stored_59 rfl (hl.at 3 rfl) ?_
            refine lv_iconst (v := (1 : Int32)) hx hb d_Y_stored_60 (by decide) ?_
            refine lv_icmp_ne (tgt := 73) hx hb d_Y_stored_61 rfl (fun c25 => ?_) (fun c25 => ?_)
            · replace h := h.2 c25
              refine lv_iload_n hx hb d_Y_stored_73 rfl (hl.at 3 rfl) ?_
              refine lv_iconst (v := (2 : Int32)) hx hb d_Y_stored_74 (by decide) ?_
              refine lv_icmp_ne (tgt := 87) hx hb d_Y_stored_75 rfl (fun c26 => ?_) (fun c26 => ?_)
              · replace h := h.2 c26
                refine lv_iload_n hx hb d_Y_stored_87 rfl (hl.at 0 rfl) ?_
                refine lv_if_le (tgt := 95) hx hb d_Y_stored_88 rfl (fun c27 => ?_) (fun c27 => ?_)
                · replace h := h.1 c27
                  refine lv_iconst (v := (0 : Int32)) hx hb d_Y_stored_95 (by decide) ?_
                  refine W.widen (k := 0) (n := 0) (by decide) (by decide) ?_
                  rw [← hQ]
                  exact z_iret hx hb hr hlk hK hM hS h d_Y_stored_96
                · replace h := h.2 c27
                  refine lv_iload_n hx hb d_Y_stored_91 rfl (hl.at 0 rfl) ?_
                  refine lv_goto (tgt := 96) hx hb d_Y_stored_92 rfl ?_
                  refine W.widen (k := 0) (n := 0) (by decide) (by decide) ?_
                  rw [← hQ]
                  exact z_iret hx hb hr hlk hK hM hS h d_Y_stored_96
              · replace h := h.1 c26
                refine lv_aload_n hx hb d_Y_stored_78 rfl (hl.at 1 rfl) ?_
                refine z_getR hx hb hW in_9 hown hK hM t7 (by decide) rfl 21 (by decide) rfl (hW _ k_606) rfl d_Y_stored_79 ?_
                refine lv_iload_n hx hb d_Y_stored_82 rfl (hl.at 2 rfl) ?_
                obtain ⟨b28, hb29, h⟩ := h
                rw [hb29]
                obtain ⟨n31, t30, h⟩ := h
                obtain ⟨i32, h⟩ := h
                refine z_iald hx hb hK hM t30 0 rfl i32 d_Y_stored_83 ?_
                refine lv_goto (tgt := 96) hx hb d_Y_stored_84 rfl ?_
                refine W.widen (k := 0) (n := 0) (by decide) (by decide) ?_
                rw [← hQ]
                exact z_iret hx hb hr hlk hK hM hS h d_Y_stored_96
            · replace h := h.1 c25
              refine lv_aload_n hx hb d_Y_stored_64 rfl (hl.at 1 rfl) ?_
              refine z_getR hx hb hW in_9 hown hK hM t7 (by decide) rfl 23 (by decide) rfl (hW _ k_608) rfl d_Y_stored_65 ?_
              refine lv_iload_n hx hb d_Y_stored_68 rfl (hl.at 2 rfl) ?_
              obtain ⟨b33, hb34, h⟩ := h
              rw [hb34]
              obtain ⟨n36, t35, h⟩ := h
              obtain ⟨i37, h⟩ := h
              refine z_iald hx hb hK hM t35 0 rfl i37 d_Y_stored_69 ?_
              refine lv_goto (tgt := 96) hx hb d_Y_stored_70 rfl ?_
              refine W.widen (k := 0) (n := 0) (by decide) (by decide) ?_
              rw [← hQ]
              exact z_iret hx hb hr hlk hK hM hS h d_Y_stored_96
          · replace h := h.1 c24
            refine lv_aload_n hx hb d_Y_stored_50 rfl (hl.at 1 rfl) ?_
            refine z_getR hx hb hW in_9 hown hK hM t7 (by decide) rfl 22 (by decide) rfl (hW _ k_607) rfl d_Y_stored_51 ?_
            refine lv_iload_n hx hb d_Y_stored_54 rfl (hl.at 2 rfl) ?_
            obtain ⟨b38, hb39, h⟩ := h
            rw [hb39]
            obtain ⟨n41, t40, h⟩ := h
            obtain ⟨i42, h⟩ := h
            refine z_iald hx hb hK hM t40 0 rfl i42 d_Y_stored_55 ?_
            refine lv_goto (tgt := 96) hx hb d_Y_stored_56 rfl ?_
            refine W.widen (k := 0) (n := 0) (by decide) (by decide) ?_
            rw [← hQ]
            exact z_iret hx hb hr hlk hK hM hS h d_Y_stored_96
        · replace h := h.2 c13
          refine lv_iconst (v := (-1 : Int32)) hx hb d_Y_stored_25 (by decide) ?_
          refine W.widen (k := 0) (n := 0) (by decide) (by decide) ?_
          rw [← hQ]
          exact z_iret hx hb hr hlk hK hM hS h d_Y_stored_26
  exact b_start M s.heap [] ls a0 x1 x2 hl hM hS h
set_option maxHeartbeats 4000000 in
set_option maxRecDepth 100000 in
theorem c_Y_entry (l : Launch) (ca : Nat → ClassId) (D : va_G) (M : zM) (sz : Nat) (a0 : Nat) (x1 : Int32) (x2 : Int32) (post : Int32 → zM → Prop) : Met l y_Y_entry (Cond.code y_Y_entry prog_11_method_31_code 4 (some .int) :: zws) rm_Y_entry (zPre ca D zcl (ztys ca) [.ref a0, .int x1, .int x2] M sz (w_Y_entry M a0 x1 x2 post)) (va_Qi post (zB ca D zcl (ztys ca) (zA M sz)) (zA M sz)) 0 0 (zA M sz) := by
  refine z_met (cc := prog_11_method_31_code) (maxL := 4) (ret := (some .int)) (plainFor_of_name (by decide)) rfl (by simp [Value.category]) (Nat.le_of_ble_eq_true rfl) ?_
  intro p e s m args below meth c ls A hx hb hr hlk hml hts hown hnm hK hN hl hA0 hM hS hA h
  rw [← hA0]
  have hW : ∀ w ∈ zws, w.before args s = true := fun w hw => hts w (List.mem_cons_of_mem _ hw)
  have hl : zL ls 4 [(0, .ref a0), (1, .int x1), (2, .int x2)] := hl
  generalize hQ : MQ below (va_Qi post (zB ca D zcl (ztys ca) A) A) args s 0 0 A = Q
  have b_start : ∀ (M : zM) (H : Heap) (locs : List Loc) (ls : Array Slot) (a0 : Nat) (x1 : Int32) (x2 : Int32), zL ls 4 [(0, .ref a0), (1, .int x1), (2, .int x2)] → zW ca D zcl A M H → va_S A s.heap H locs → w_Y_entry M a0 x1 x2 post → W p l e rm_Y_entry s m args below meth c H locs 0 0 Q (F0 m 0 ls []) := by
    intro M H locs ls a0 x1 x2 hl hM hS h
    unfold w_Y_entry at h
    refine lv_iload_n hx hb d_Y_entry_0 rfl (hl.at 1 rfl) ?_
    refine lv_aload_n hx hb d_Y_entry_1 rfl (hl.at 0 rfl) ?_
    obtain ⟨t1, h⟩ := h
    refine z_getI hx hb hW in_9 hown hK hM t1 (by decide) rfl 28 (by decide) rfl (hW _ k_613) rfl d_Y_entry_2 ?_
    refine lv_aload_n hx hb d_Y_entry_5 rfl (hl.at 0 rfl) ?_
    refine z_cti (mc := 0) (ms := 0) (va_runV (As := []) (rest := [.int (zI M a0 28), .int x1]) ⟨hx, hb, hml, hown, hW⟩ (c_Y_oldest l ca D M H.size a0 _) (cw_Y_oldest hW k_750 ⟨by decide, by decide⟩) (zPre_V hK hN hM h t1 (by decide) rfl) rfl rfl hl.1.1 rfl (lv_room (Nat.le_of_ble_eq_true rfl)) d_Y_entry_6 ⟨by decide, by decide⟩) hM hS hA (fun r2 M3 H locs h hM hS => ?_)
    refine lv_isub hx hb d_Y_entry_9 ?_
    refine lv_iconst (v := (1 : Int32)) hx hb d_Y_entry_10 (by decide) ?_
    refine lv_isub hx hb d_Y_entry_11 ?_
    refine z_cti (mc := 0) (ms := 0) (va_runS (As := [.int x1, .int (((zI M a0 28) - r2) - (1 : Int32))]) (rest := []) ⟨hx, hb, hml, hown, hW⟩ (c_Y_within l ca D M3 H.size x1 (((zI M a0 28) - r2) - (1 : Int32)) _) (cw_Y_within hW k_711 ⟨by decide, by decide⟩) (zPre_S hK hN hM h) rfl rfl hl.1.1 rfl (lv_room (Nat.le_of_ble_eq_true rfl)) d_Y_entry_12 ⟨by decide, by decide⟩) hM hS hA (fun r4 M5 H locs h hM hS => ?_)
    refine lv_if_eq (tgt := 26) hx hb d_Y_entry_15 rfl (fun c6 => ?_) (fun c6 => ?_)
    · replace h := h.1 c6
      refine lv_iconst (v := (-1 : Int32)) hx hb d_Y_entry_26 (by decide) ?_
      refine W.widen (k := 0) (n := 0) (by decide) (by decide) ?_
      rw [← hQ]
      exact z_iret hx hb hr hlk hK hM hS h d_Y_entry_27
    · replace h := h.2 c6
      refine lv_iload_n hx hb d_Y_entry_18 rfl (hl.at 2 rfl) ?_
      refine lv_iconst (v := (2 : Int32)) hx hb d_Y_entry_19 (by decide) ?_
      refine z_cti (mc := 0) (ms := 0) (va_runS (As := [.int x2, .int (2 : Int32)]) (rest := []) ⟨hx, hb, hml, hown, hW⟩ (c_Y_within l ca D M5 H.size x2 (2 : Int32) _) (cw_Y_within hW k_711 ⟨by decide, by decide⟩) (zPre_S hK hN hM h) rfl rfl hl.1.1 rfl (lv_room (Nat.le_of_ble_eq_true rfl)) d_Y_entry_20 ⟨by decide, by decide⟩) hM hS hA (fun r7 M8 H locs h hM hS => ?_)
      refine lv_if_ne (tgt := 28) hx hb d_Y_entry_23 rfl (fun c9 => ?_) (fun c9 => ?_)
      · replace h := h.2 c9
        refine lv_aload_n hx hb d_Y_entry_28 rfl (hl.at 0 rfl) ?_
        obtain ⟨t10, h⟩ := h
        refine z_getI hx hb hW in_9 hown hK hM t10 (by decide) rfl 28 (by decide) rfl (hW _ k_613) rfl d_Y_entry_29 ?_
        refine lv_iconst (v := (1 : Int32)) hx hb d_Y_entry_32 (by decide) ?_
        refine lv_isub hx hb d_Y_entry_33 ?_
        refine lv_iload_n hx hb d_Y_entry_34 rfl (hl.at 1 rfl) ?_
        refine lv_isub hx hb d_Y_entry_35 ?_
        refine z_istore_n hx hb d_Y_entry_36 rfl hl (by decide) rfl (fun ls hl => ?_)
        have hl : zL ls 4 [(3, .int (((zI M8 a0 28) - (1 : Int32)) - x1)), (0, .ref a0), (1, .int x1), (2, .int x2)] := hl
        refine lv_iload_n hx hb d_Y_entry_37 rfl (hl.at 3 rfl) ?_
        refine lv_if_ne (tgt := 50) hx hb d_Y_entry_38 rfl (fun c11 => ?_) (fun c11 => ?_)
        · replace h := h.2 c11
          refine lv_iload_n hx hb d_Y_entry_50 rfl (hl.at 3 rfl) ?_
          refine lv_iconst (v := (1 : Int32)) hx hb d_Y_entry_51 (by decide) ?_
          refine lv_icmp_ne (tgt := 64) hx hb d_Y_entry_52 rfl (fun c12 => ?_) (fun c12 => ?_)
          · replace h := h.2 c12
            refine lv_aload_n hx hb d_Y_entry_64 rfl (hl.at 1 rfl) ?_
            refine lv_iload_n hx hb d_Y_entry_65 rfl (hl.at 0 rfl) ?_
            refine lv_iconst (v := (-1 : Int32)) hx hb d_Y_entry_66 (by decide) ?_
            refine z_cti (mc := 0) (ms := 0) (va_runV (As := [.int (((zI M8 a0 28) - (1 : Int32)) - x1), .int (-1 : Int32)]) (rest := []) ⟨hx, hb, hml, hown, hW⟩ (c_Y_uses l ca D M8 H.size a0 (((zI M8 a0 28) - (1 : Int32)) - x1) (-1 : Int32) _) (cw_Y_uses hW k_754 ⟨by decide, by decide⟩) (zPre_V hK hN hM h t10 (by decide) rfl) rfl rfl hl.1.1 rfl (lv_room (Nat.le_of_ble_eq_true rfl)) d_Y_entry_67 ⟨by decide, by decide⟩) hM hS hA (fun r13 M14 H locs h hM hS => ?_)
            refine W.widen (k := 0) (n := 0) (by decide) (by decide) ?_
            rw [← hQ]
            exact z_iret hx hb hr hlk hK hM hS h d_Y_entry_70
          · replace h := h.1 c12
            refine lv_aload_n hx hb d_Y_entry_55 rfl (hl.at 1 rfl) ?_
            refine z_getR hx hb hW in_9 hown hK hM t10 (by decide) rfl 27 (by decide) rfl (hW _ k_612) rfl d_Y_entry_56 ?_
            refine lv_iload_n hx hb d_Y_entry_59 rfl (hl.at 0 rfl) ?_
            obtain ⟨b15, hb16, h⟩ := h
            rw [hb16]
            obtain ⟨n18, t17, h⟩ := h
            obtain ⟨i19, h⟩ := h
            refine z_iald hx hb hK hM t17 0 rfl i19 d_Y_entry_60 ?_
            refine lv_goto (tgt := 70) hx hb d_Y_entry_61 rfl ?_
            refine W.widen (k := 0) (n := 0) (by decide) (by decide) ?_
            rw [← hQ]
            exact z_iret hx hb hr hlk hK hM hS h d_Y_entry_70
        · replace h := h.1 c11
          refine lv_aload_n hx hb d_Y_entry_41 rfl (hl.at 1 rfl) ?_
          refine z_getR hx hb hW in_9 hown hK hM t10 (by decide) rfl 26 (by decide) rfl (hW _ k_611) rfl d_Y_entry_42 ?_
          refine lv_iload_n hx hb d_Y_entry_45 rfl (hl.at 0 rfl) ?_
          obtain ⟨b20, hb21, h⟩ := h
          rw [hb21]
          obtain ⟨n23, t22, h⟩ := h
          obtain ⟨i24, h⟩ := h
          refine z_iald hx hb hK hM t22 0 rfl i24 d_Y_entry_46 ?_
          refine lv_goto (tgt := 70) hx hb d_Y_entry_47 rfl ?_
          refine W.widen (k := 0) (n := 0) (by decide) (by decide) ?_
          rw [← hQ]
          exact z_iret hx hb hr hlk hK hM hS h d_Y_entry_70
      · replace h := h.1 c9
        refine lv_iconst (v := (-1 : Int32)) hx hb d_Y_entry_26 (by decide) ?_
        refine W.widen (k := 0) (n := 0) (by decide) (by decide) ?_
        rw [← hQ]
        exact z_iret hx hb hr hlk hK hM hS h d_Y_entry_27
  exact b_start M s.heap [] ls a0 x1 x2 hl hM hS h
