set_option maxHeartbeats 4000000 in
set_option maxRecDepth 100000 in
theorem c_C_acknowledge (l : Launch) (ca : Nat → ClassId) (D : va_G) (M : zM) (sz : Nat) (a0 : Nat) (a1 : Nat) (a2 : Nat) (a3 : Nat) (post : zM → Prop) : Met l y_C_acknowledge (Cond.code y_C_acknowledge prog_3_method_8_code 4 none :: zws) rm_C_acknowledge (zPre ca D zcl (ztys ca) [.ref a0, .ref a1, .ref a2, .ref a3] M sz (w_C_acknowledge M a0 a1 a2 a3 post)) (va_Qv post (zB ca D zcl (ztys ca) (zA M sz)) (zA M sz)) 0 0 (zA M sz) := by
  refine z_met (cc := prog_3_method_8_code) (maxL := 4) (ret := none) (plainFor_of_name (by decide)) rfl (by simp [Value.category]) (Nat.le_of_ble_eq_true rfl) ?_
  intro p e s m args below meth c ls A hx hb hr hlk hml hts hown hnm hK hN hl hA0 hM hS hA h
  rw [← hA0]
  have hW : ∀ w ∈ zws, w.before args s = true := fun w hw => hts w (List.mem_cons_of_mem _ hw)
  have hl : zL ls 4 [(0, .ref a0), (1, .ref a1), (2, .ref a2), (3, .ref a3)] := hl
  generalize hQ : MQ below (va_Qv post (zB ca D zcl (ztys ca) A) A) args s 0 0 A = Q
  have b_start : ∀ (M : zM) (H : Heap) (locs : List Loc) (ls : Array Slot) (a0 : Nat) (a1 : Nat) (a2 : Nat) (a3 : Nat), zL ls 4 [(0, .ref a0), (1, .ref a1), (2, .ref a2), (3, .ref a3)] → zW ca D zcl A M H → va_S A s.heap H locs → w_C_acknowledge M a0 a1 a2 a3 post → W p l e rm_C_acknowledge s m args below meth c H locs 0 0 Q (F0 m 0 ls []) := by
    intro M H locs ls a0 a1 a2 a3 hl hM hS h
    unfold w_C_acknowledge at h
    refine lv_aload_n hx hb d_C_acknowledge_0 rfl (hl.at 2 rfl) ?_
    obtain ⟨t1, h⟩ := h
    refine z_getI hx hb hW in_0 hown hK hM t1 (by decide) rfl 3 (by decide) rfl (hW _ k_341) rfl d_C_acknowledge_1 ?_
    refine lv_if_ne (tgt := 8) hx hb d_C_acknowledge_4 rfl (fun c2 => ?_) (fun c2 => ?_)
    · replace h := h.2 c2
      refine lv_aload_n hx hb d_C_acknowledge_8 rfl (hl.at 3 rfl) ?_
      refine lv_iconst (v := (0 : Int32)) hx hb d_C_acknowledge_9 (by decide) ?_
      refine lv_aload_n hx hb d_C_acknowledge_10 rfl (hl.at 1 rfl) ?_
      obtain ⟨t3, h⟩ := h
      refine z_getI hx hb hW in_3 hown hK hM t3 (by decide) rfl 0 (by decide) rfl (hW _ k_242) rfl d_C_acknowledge_11 ?_
      obtain ⟨t4, h⟩ := h
      refine z_ctv (mc := 0) (ms := 0) (va_runV (As := [.int (0 : Int32), .int (zI M a1 0)]) (rest := []) ⟨hx, hb, hml, hown, hW⟩ (c_F_append l ca D M H.size a3 (0 : Int32) (zI M a1 0) _) (cw_F_append hW k_473 ⟨by decide, by decide⟩) (zPre_V hK hN hM h t4 (by decide) rfl) rfl rfl hl.1.1 rfl (lv_room (Nat.le_of_ble_eq_true rfl)) d_C_acknowledge_14 ⟨by decide, by decide⟩) hM hS hA (fun M5 H locs h hM hS => ?_)
      refine lv_aload_n hx hb d_C_acknowledge_17 rfl (hl.at 0 rfl) ?_
      refine lv_aload_n hx hb d_C_acknowledge_18 rfl (hl.at 0 rfl) ?_
      obtain ⟨t6, h⟩ := h
      refine z_getI hx hb hW in_1 hown hK hM t6 (by decide) rfl 2 (by decide) rfl (hW _ k_151) rfl d_C_acknowledge_19 ?_
      refine lv_aload_n hx hb d_C_acknowledge_22 rfl (hl.at 2 rfl) ?_
      obtain ⟨t7, h⟩ := h
      refine z_getI hx hb hW in_0 hown hK hM t7 (by decide) rfl 3 (by decide) rfl (hW _ k_341) rfl d_C_acknowledge_23 ?_
      refine va_mmax hx hb (by rw [hml]; exact hl.1.1.symm) hown (hW _ k_477) (hW _ k_322) (hW _ k_10) (hW _ k_323) (Nat.le_of_ble_eq_true rfl) (Nat.le_of_ble_eq_true rfl) (by decide) (by decide) d_C_acknowledge_26 ?_
      refine z_putI hx hb hW in_1 ty_1 tyok_1 nm_1 hown hK hM hS t6 (by decide) rfl 2 (by decide) rfl (hW _ k_151) rfl (Or.inl rfl) rfl rfl d_C_acknowledge_29 (fun H locs hM hS => ?_)
      obtain ⟨M8, e9⟩ : ∃ z, z = zwI M5 a0 2 (if zI M5 a0 2 < zI M5 a2 3 then zI M5 a2 3 else zI M5 a0 2) := ⟨_, rfl⟩
      replace h := h M8 e9
      rw [← e9] at hM
      refine W.widen (k := 0) (n := 0) (by decide) (by decide) ?_
      rw [← hQ]
      exact z_vret hx hb hr hlk hK hM hS h d_C_acknowledge_32
    · replace h := h.1 c2
      rw [← hQ]
      exact z_vret hx hb hr hlk hK hM hS h d_C_acknowledge_7
  exact b_start M s.heap [] ls a0 a1 a2 a3 hl hM hS h
set_option maxHeartbeats 4000000 in
set_option maxRecDepth 100000 in
theorem c_C_read (l : Launch) (ca : Nat → ClassId) (D : va_G) (M : zM) (sz : Nat) (a0 : Nat) (a1 : Nat) (a2 : Nat) (a3 : Nat) (post : zM → Prop) : Met l y_C_read (Cond.code y_C_read prog_3_method_5_code 5 none :: zws) rm_C_read (zPre ca D zcl (ztys ca) [.ref a0, .ref a1, .ref a2, .ref a3] M sz (w_C_read M a0 a1 a2 a3 post)) (va_Qv post (zB ca D zcl (ztys ca) (zA M sz)) (zA M sz)) 0 0 (zA M sz) := by
  refine z_met (cc := prog_3_method_5_code) (maxL := 5) (ret := none) (plainFor_of_name (by decide)) rfl (by simp [Value.category]) (Nat.le_of_ble_eq_true rfl) ?_
  intro p e s m args below meth c ls A hx hb hr hlk hml hts hown hnm hK hN hl hA0 hM hS hA h
  rw [← hA0]
  have hW : ∀ w ∈ zws, w.before args s = true := fun w hw => hts w (List.mem_cons_of_mem _ hw)
  have hl : zL ls 5 [(0, .ref a0), (1, .ref a1), (2, .ref a2), (3, .ref a3)] := hl
  generalize hQ : MQ below (va_Qv post (zB ca D zcl (ztys ca) A) A) args s 0 0 A = Q
  have b_145 : ∀ (M : zM) (H : Heap) (locs : List Loc) (ls : Array Slot) (a0 : Nat) (a1 : Nat) (a2 : Nat) (a3 : Nat) (a4 : Nat), zL ls 5 [(0, .ref a0), (1, .ref a1), (2, .ref a2), (3, .ref a3), (4, .ref a4)] → zW ca D zcl A M H → va_S A s.heap H locs → w_C_read_145 post M a0 a1 a2 a3 a4 → W p l e rm_C_read s m args below meth c H locs 0 0 Q (F0 m 145 ls []) := by
    intro M H locs ls a0 a1 a2 a3 a4 hl hM hS h
    unfold w_C_read_145 at h
    refine lv_aload_n hx hb d_C_read_145 rfl (hl.at 0 rfl) ?_
    refine lv_aload_n hx hb d_C_read_146 rfl (hl.at 1 rfl) ?_
    refine lv_aload_n hx hb d_C_read_147 rfl (hl.at 2 rfl) ?_
    refine lv_aload_n hx hb d_C_read_148 rfl (hl.at 3 rfl) ?_
    obtain ⟨t13, h⟩ := h
    refine z_ctv (mc := 0) (ms := 0) (va_runV (As := [.ref a1, .ref a2, .ref a3]) (rest := []) ⟨hx, hb, hml, hown, hW⟩ (c_C_acknowledge l ca D M H.size a0 a1 a2 a3 _) (cw_C_acknowledge hW k_469 ⟨by decide, by decide⟩) (zPre_V hK hN hM h t13 (by decide) rfl) rfl rfl hl.1.1 rfl (lv_room (Nat.le_of_ble_eq_true rfl)) d_C_read_149 ⟨by decide, by decide⟩) hM hS hA (fun M14 H locs h hM hS => ?_)
    refine W.widen (k := 0) (n := 0) (by decide) (by decide) ?_
    rw [← hQ]
    exact z_vret hx hb hr hlk hK hM hS h d_C_read_152
  have b_start : ∀ (M : zM) (H : Heap) (locs : List Loc) (ls : Array Slot) (a0 : Nat) (a1 : Nat) (a2 : Nat) (a3 : Nat), zL ls 5 [(0, .ref a0), (1, .ref a1), (2, .ref a2), (3, .ref a3)] → zW ca D zcl A M H → va_S A s.heap H locs → w_C_read M a0 a1 a2 a3 post → W p l e rm_C_read s m args below meth c H locs 0 0 Q (F0 m 0 ls []) := by
    intro M H locs ls a0 a1 a2 a3 hl hM hS h
    unfold w_C_read at h
    refine lv_aload_n hx hb d_C_read_0 rfl (hl.at 0 rfl) ?_
    refine lv_aload_n hx hb d_C_read_1 rfl (hl.at 1 rfl) ?_
    obtain ⟨t1, h⟩ := h
    refine z_getI hx hb hW in_3 hown hK hM t1 (by decide) rfl 1 (by decide) rfl (hW _ k_246) rfl d_C_read_2 ?_
    obtain ⟨t2, h⟩ := h
    refine z_ctq (mc := 0) (ms := 0) (va_runV (As := [.int (zI M a1 1)]) (rest := []) ⟨hx, hb, hml, hown, hW⟩ (c_C_storedAt l ca D M H.size a0 (zI M a1 1) _) (cw_C_storedAt hW k_456 ⟨by decide, by decide⟩) (zPre_V hK hN hM h t2 (by decide) rfl) rfl rfl hl.1.1 rfl (lv_room (Nat.le_of_ble_eq_true rfl)) d_C_read_5 ⟨by decide, by decide⟩) hM hS hA (fun r3 M4 H locs h hM hS => ?_)
    refine z_astore (x := r3) hx hb d_C_read_8 hl (by decide) rfl (fun ls hl => ?_)
    have hl : zL ls 5 [(4, va_rf r3), (0, .ref a0), (1, .ref a1), (2, .ref a2), (3, .ref a3)] := hl
    refine z_aload hx hb d_C_read_10 (hl.at 0 rfl) ?_
    cases r3 with
    | none =>
      replace h := h.1 rfl
      refine lv_ifnonnullN hx hb d_C_read_12 ?_
      refine W.widen (k := 0) (n := 0) (by decide) (by decide) ?_
      rw [← hQ]
      exact z_vret hx hb hr hlk hK hM hS h d_C_read_15
    | some b5 =>
      replace h := h.2 b5 rfl
      refine lv_ifnonnull (tgt := 16) hx hb d_C_read_12 rfl ?_
      refine lv_aload_n hx hb d_C_read_16 rfl (hl.at 3 rfl) ?_
      obtain ⟨t6, h⟩ := h
      refine z_getI hx hb hW in_0 hown hK hM t6 (by decide) rfl 0 (by decide) rfl (hW _ k_336) rfl d_C_read_17 ?_
      by_cases c7 : zI M4 a2 0 = (200 : Int32)
      · replace h := h.1 c7
        refine z_lkIn (tgt := 56) (200 : Int32) c7 hx hb d_C_read_20 (by decide) rfl rfl ?_
        refine lv_aload_n hx hb d_C_read_56 rfl (hl.at 2 rfl) ?_
        obtain ⟨t8, h⟩ := h
        refine z_getI hx hb hW in_3 hown hK hM t8 (by decide) rfl 2 (by decide) rfl (hW _ k_248) rfl d_C_read_57 ?_
        refine lv_if_eq (tgt := 81) hx hb d_C_read_60 rfl (fun c9 => ?_) (fun c9 => ?_)
        · replace h := h.1 c9
          refine lv_aload_n hx hb d_C_read_81 rfl (hl.at 2 rfl) ?_
          refine lv_iconst (v := (1 : Int32)) hx hb d_C_read_82 (by decide) ?_
          refine lv_aload_n hx hb d_C_read_83 rfl (hl.at 3 rfl) ?_
          refine z_getI hx hb hW in_0 hown hK hM t6 (by decide) rfl 6 (by decide) rfl (hW _ k_348) rfl d_C_read_84 ?_
          refine z_ctv (mc := 0) (ms := 0) (va_runV (As := [.int (1 : Int32), .int (zI M4 a2 6)]) (rest := []) ⟨hx, hb, hml, hown, hW⟩ (c_Q_settle l ca D M4 H.size a1 (1 : Int32) (zI M4 a2 6) _) (cw_Q_settle hW k_300 ⟨by decide, by decide⟩) (zPre_V hK hN hM h t8 (by decide) rfl) rfl rfl hl.1.1 rfl (lv_room (Nat.le_of_ble_eq_true rfl)) d_C_read_87 ⟨by decide, by decide⟩) hM hS hA (fun M10 H locs h hM hS => ?_)
          refine lv_aload_n hx hb d_C_read_90 rfl (hl.at 1 rfl) ?_
          refine lv_aload hx hb d_C_read_91 (hl.at 0 rfl) ?_
          refine lv_aload_n hx hb d_C_read_93 rfl (hl.at 2 rfl) ?_
          refine lv_aload_n hx hb d_C_read_94 rfl (hl.at 3 rfl) ?_
          obtain ⟨t11, h⟩ := h
          refine z_ctv (mc := 0) (ms := 0) (va_runV (As := [.ref b5, .ref a1, .ref a2]) (rest := []) ⟨hx, hb, hml, hown, hW⟩ (c_C_store l ca D M10 H.size a0 b5 a1 a2 _) (cw_C_store hW k_461 ⟨by decide, by decide⟩) (zPre_V hK hN hM h t11 (by decide) rfl) rfl rfl hl.1.1 rfl (lv_room (Nat.le_of_ble_eq_true rfl)) d_C_read_95 ⟨by decide, by decide⟩) hM hS hA (fun M12 H locs h hM hS => ?_)
          refine lv_goto (tgt := 145) hx hb d_C_read_98 rfl ?_
          refine W.widen (k := 0) (n := 0) (by decide) (by decide) ?_
          exact b_145 M12 H locs ls a0 a1 a2 a3 b5 (hl.sub [1, 2, 3, 4, 0] rfl) hM hS h
        · replace h := h.2 c9
          refine lv_aload_n hx hb d_C_read_63 rfl (hl.at 2 rfl) ?_
          refine lv_iconst (v := (4 : Int32)) hx hb d_C_read_64 (by decide) ?_
          refine lv_iconst (v := (0 : Int32)) hx hb d_C_read_65 (by decide) ?_
          refine z_ctv (mc := 0) (ms := 0) (va_runV (As := [.int (4 : Int32), .int (0 : Int32)]) (rest := []) ⟨hx, hb, hml, hown, hW⟩ (c_Q_settle l ca D M4 H.size a1 (4 : Int32) (0 : Int32) _) (cw_Q_settle hW k_300 ⟨by decide, by decide⟩) (zPre_V hK hN hM h t8 (by decide) rfl) rfl rfl hl.1.1 rfl (lv_room (Nat.le_of_ble_eq_true rfl)) d_C_read_66 ⟨by decide, by decide⟩) hM hS hA (fun M15 H locs h hM hS => ?_)
          refine lv_aload hx hb d_C_read_69 (hl.at 0 rfl) ?_
          refine lv_aload_n hx hb d_C_read_71 rfl (hl.at 2 rfl) ?_
          obtain ⟨t16, h⟩ := h
          refine z_getI hx hb hW in_3 hown hK hM t16 (by decide) rfl 0 (by decide) rfl (hW _ k_242) rfl d_C_read_72 ?_
          obtain ⟨t17, h⟩ := h
          refine z_ctv (mc := 0) (ms := 0) (va_runV (As := [.int (zI M15 a1 0)]) (rest := []) ⟨hx, hb, hml, hown, hW⟩ (c_K_forgetIfOlderThan l ca D M15 H.size b5 (zI M15 a1 0) _) (cw_K_forgetIfOlderThan hW k_457 ⟨by decide, by decide⟩) (zPre_V hK hN hM h t17 (by decide) rfl) rfl rfl hl.1.1 rfl (lv_room (Nat.le_of_ble_eq_true rfl)) d_C_read_75 ⟨by decide, by decide⟩) hM hS hA (fun M18 H locs h hM hS => ?_)
          refine lv_goto (tgt := 145) hx hb d_C_read_78 rfl ?_
          refine W.widen (k := 0) (n := 0) (by decide) (by decide) ?_
          exact b_145 M18 H locs ls a0 a1 a2 a3 b5 (hl.sub [1, 2, 3, 4, 0] rfl) hM hS h
      replace h := h.2 c7
      by_cases c19 : zI M4 a2 0 = (304 : Int32)
      · replace h := h.1 c19
        refine z_lkIn (tgt := 101) (304 : Int32) c19 hx hb d_C_read_20 (by decide) rfl rfl ?_
        refine lv_aload_n hx hb d_C_read_101 rfl (hl.at 2 rfl) ?_
        refine lv_iconst (v := (2 : Int32)) hx hb d_C_read_102 (by decide) ?_
        refine lv_aload_n hx hb d_C_read_103 rfl (hl.at 2 rfl) ?_
        obtain ⟨t20, h⟩ := h
        refine z_getI hx hb hW in_3 hown hK hM t20 (by decide) rfl 7 (by decide) rfl (hW _ k_258) rfl d_C_read_104 ?_
        refine z_ctv (mc := 0) (ms := 0) (va_runV (As := [.int (2 : Int32), .int (zI M4 a1 7)]) (rest := []) ⟨hx, hb, hml, hown, hW⟩ (c_Q_settle l ca D M4 H.size a1 (2 : Int32) (zI M4 a1 7) _) (cw_Q_settle hW k_300 ⟨by decide, by decide⟩) (zPre_V hK hN hM h t20 (by decide) rfl) rfl rfl hl.1.1 rfl (lv_room (Nat.le_of_ble_eq_true rfl)) d_C_read_107 ⟨by decide, by decide⟩) hM hS hA (fun M21 H locs h hM hS => ?_)
        refine lv_aload_n hx hb d_C_read_110 rfl (hl.at 1 rfl) ?_
        refine lv_aload hx hb d_C_read_111 (hl.at 0 rfl) ?_
        refine lv_aload_n hx hb d_C_read_113 rfl (hl.at 2 rfl) ?_
        refine lv_aload_n hx hb d_C_read_114 rfl (hl.at 3 rfl) ?_
        obtain ⟨t22, h⟩ := h
        refine z_ctv (mc := 0) (ms := 0) (va_runV (As := [.ref b5, .ref a1, .ref a2]) (rest := []) ⟨hx, hb, hml, hown, hW⟩ (c_C_renew l ca D M21 H.size a0 b5 a1 a2 _) (cw_C_renew hW k_465 ⟨by decide, by decide⟩) (zPre_V hK hN hM h t22 (by decide) rfl) rfl rfl hl.1.1 rfl (lv_room (Nat.le_of_ble_eq_true rfl)) d_C_read_115 ⟨by decide, by decide⟩) hM hS hA (fun M23 H locs h hM hS => ?_)
        refine lv_goto (tgt := 145) hx hb d_C_read_118 rfl ?_
        refine W.widen (k := 0) (n := 0) (by decide) (by decide) ?_
        exact b_145 M23 H locs ls a0 a1 a2 a3 b5 (hl.sub [1, 2, 3, 4, 0] rfl) hM hS h
      replace h := h.2 c19
      by_cases c24 : zI M4 a2 0 = (404 : Int32)
      · replace h := h.1 c24
        refine z_lkIn (tgt := 121) (404 : Int32) c24 hx hb d_C_read_20 (by decide) rfl rfl ?_
        refine lv_aload_n hx hb d_C_read_121 rfl (hl.at 2 rfl) ?_
        refine lv_iconst (v := (3 : Int32)) hx hb d_C_read_122 (by decide) ?_
        refine lv_iconst (v := (0 : Int32)) hx hb d_C_read_123 (by decide) ?_
        obtain ⟨t25, h⟩ := h
        refine z_ctv (mc := 0) (ms := 0) (va_runV (As := [.int (3 : Int32), .int (0 : Int32)]) (rest := []) ⟨hx, hb, hml, hown, hW⟩ (c_Q_settle l ca D M4 H.size a1 (3 : Int32) (0 : Int32) _) (cw_Q_settle hW k_300 ⟨by decide, by decide⟩) (zPre_V hK hN hM h t25 (by decide) rfl) rfl rfl hl.1.1 rfl (lv_room (Nat.le_of_ble_eq_true rfl)) d_C_read_124 ⟨by decide, by decide⟩) hM hS hA (fun M26 H locs h hM hS => ?_)
        refine lv_aload hx hb d_C_read_127 (hl.at 0 rfl) ?_
        refine lv_aload_n hx hb d_C_read_129 rfl (hl.at 2 rfl) ?_
        obtain ⟨t27, h⟩ := h
        refine z_getI hx hb hW in_3 hown hK hM t27 (by decide) rfl 0 (by decide) rfl (hW _ k_242) rfl d_C_read_130 ?_
        obtain ⟨t28, h⟩ := h
        refine z_ctv (mc := 0) (ms := 0) (va_runV (As := [.int (zI M26 a1 0)]) (rest := []) ⟨hx, hb, hml, hown, hW⟩ (c_K_forgetIfOlderThan l ca D M26 H.size b5 (zI M26 a1 0) _) (cw_K_forgetIfOlderThan hW k_457 ⟨by decide, by decide⟩) (zPre_V hK hN hM h t28 (by decide) rfl) rfl rfl hl.1.1 rfl (lv_room (Nat.le_of_ble_eq_true rfl)) d_C_read_133 ⟨by decide, by decide⟩) hM hS hA (fun M29 H locs h hM hS => ?_)
        refine lv_goto (tgt := 145) hx hb d_C_read_136 rfl ?_
        refine W.widen (k := 0) (n := 0) (by decide) (by decide) ?_
        exact b_145 M29 H locs ls a0 a1 a2 a3 b5 (hl.sub [1, 2, 3, 4, 0] rfl) hM hS h
      replace h := h.2 c24
      refine lv_lookup (tgt := 139) (off := 119) hx hb d_C_read_20 (by decide) (by rw [lv_osw c7 (by decide), lv_osw c19 (by decide), lv_osw c24 (by decide)]; rfl) rfl ?_
      refine lv_aload_n hx hb d_C_read_139 rfl (hl.at 2 rfl) ?_
      refine lv_iconst (v := (5 : Int32)) hx hb d_C_read_140 (by decide) ?_
      refine lv_iconst (v := (0 : Int32)) hx hb d_C_read_141 (by decide) ?_
      obtain ⟨t30, h⟩ := h
      refine z_ctv (mc := 0) (ms := 0) (va_runV (As := [.int (5 : Int32), .int (0 : Int32)]) (rest := []) ⟨hx, hb, hml, hown, hW⟩ (c_Q_settle l ca D M4 H.size a1 (5 : Int32) (0 : Int32) _) (cw_Q_settle hW k_300 ⟨by decide, by decide⟩) (zPre_V hK hN hM h t30 (by decide) rfl) rfl rfl hl.1.1 rfl (lv_room (Nat.le_of_ble_eq_true rfl)) d_C_read_142 ⟨by decide, by decide⟩) hM hS hA (fun M31 H locs h hM hS => ?_)
      refine W.widen (k := 0) (n := 0) (by decide) (by decide) ?_
      exact b_145 M31 H locs ls a0 a1 a2 a3 b5 (hl.sub [1, 2, 3, 4, 0] rfl) hM hS h
  exact b_start M s.heap [] ls a0 a1 a2 a3 hl hM hS h
set_option maxHeartbeats 4000000 in
set_option maxRecDepth 100000 in
theorem c_F_init (l : Launch) (ca : Nat → ClassId) (D : va_G) (M : zM) (sz : Nat) (a0 : Nat) (post : zM → Prop) : Met l y_F_init (Cond.code y_F_init prog_4_method_1_code 1 none :: zws) rm_F_init (zPre ca D zcl (ztys ca) [.ref a0] M sz (w_F_init M a0 post)) (va_Qv post (zB ca D zcl (ztys ca) (zA M sz)) (zA M sz)) 2 480 (zA M sz) := by
  refine z_met (cc := prog_4_method_1_code) (maxL := 1) (ret := none) (plainFor_of_name (by decide)) rfl (by simp [Value.category]) (Nat.le_of_ble_eq_true rfl) ?_
  intro p e s m args below meth c ls A hx hb hr hlk hml hts hown hnm hK hN hl hA0 hM hS hA h
  rw [← hA0]
  have hW : ∀ w ∈ zws, w.before args s = true := fun w hw => hts w (List.mem_cons_of_mem _ hw)
  have hl : zL ls 1 [(0, .ref a0)] := hl
  generalize hQ : MQ below (va_Qv post (zB ca D zcl (ztys ca) A) A) args s 2 480 A = Q
  have b_start : ∀ (M : zM) (H : Heap) (locs : List Loc) (ls : Array Slot) (a0 : Nat), zL ls 1 [(0, .ref a0)] → zW ca D zcl A M H → va_S A s.heap H locs → w_F_init M a0 post → W p l e rm_F_init s m args below meth c H locs 0 0 Q (F0 m 0 ls []) := by
    intro M H locs ls a0 hl hM hS h
    unfold w_F_init at h
    refine lv_aload_n hx hb d_F_init_0 rfl (hl.at 0 rfl) ?_
    refine W.objInit hx hb hown (hW _ k_169) (hW _ k_18) (hW _ k_19) rfl (by rw [hml]; exact hl.1.1) rfl d_F_init_1 (Nat.le_of_ble_eq_true rfl) (Nat.le_of_ble_eq_true rfl) ?_
    refine W.eq (g2 := F0 m 4 ls []) rfl ?_
    refine lv_aload_n hx hb d_F_init_4 rfl (hl.at 0 rfl) ?_
    refine lv_sipush (v := (240 : Int32)) hx hb d_F_init_5 (by decide) ?_
    refine z_newP (atype := .int) hx hb (hW _ k_85) rfl hK hM hS hA (by decide) 0 rfl (by decide) (N' := 240) (by decide) (by decide) (by decide) (by decide) d_F_init_8 (fun q1 H hq2 hM hS => ?_)
    replace h := h q1 hq2
    obtain ⟨M3, e4⟩ : ∃ z, z = znw M q1 (20, 240) := ⟨_, rfl⟩
    replace h := h M3 e4
    rw [← e4] at hM
    have t5 : zT M3 q1 = some (20, 240) := by rw [e4, zT_nw, if_pos rfl]
    obtain ⟨t6, h⟩ := h
    refine z_putR (v := some q1) hx hb hW in_2 ty_2 tyok_2 nm_2 hown hK hM hS t6 (by decide) rfl 0 (by decide) rfl (hW _ k_170) rfl (Or.inr ⟨rfl, hnm, rfl⟩) rfl rfl d_F_init_10 (fun H locs hM hS => ?_)
    obtain ⟨M7, e8⟩ : ∃ z, z = zwR M3 a0 0 (some q1) := ⟨_, rfl⟩
    replace h := h M7 e8
    rw [← e8] at hM
    refine lv_aload_n hx hb d_F_init_13 rfl (hl.at 0 rfl) ?_
    refine lv_sipush (v := (240 : Int32)) hx hb d_F_init_14 (by decide) ?_
    refine z_newP (atype := .int) hx hb (hW _ k_85) rfl hK hM hS hA (by decide) 0 rfl (by decide) (N' := 240) (by decide) (by decide) (by decide) (by decide) d_F_init_17 (fun q9 H hq10 hM hS => ?_)
    replace h := h q9 hq10
    obtain ⟨M11, e12⟩ : ∃ z, z = znw M7 q9 (20, 240) := ⟨_, rfl⟩
    replace h := h M11 e12
    rw [← e12] at hM
    have t13 : zT M11 q9 = some (20, 240) := by rw [e12, zT_nw, if_pos rfl]
    obtain ⟨t14, h⟩ := h
    refine z_putR (v := some q9) hx hb hW in_2 ty_2 tyok_2 nm_2 hown hK hM hS t14 (by decide) rfl 1 (by decide) rfl (hW _ k_171) rfl (Or.inr ⟨rfl, hnm, rfl⟩) rfl rfl d_F_init_19 (fun H locs hM hS => ?_)
    obtain ⟨M15, e16⟩ : ∃ z, z = zwR M11 a0 1 (some q9) := ⟨_, rfl⟩
    replace h := h M15 e16
    rw [← e16] at hM
    rw [← hQ]
    exact z_vret hx hb hr hlk hK hM hS h d_F_init_22
  exact b_start M s.heap [] ls a0 hl hM hS h
set_option maxHeartbeats 4000000 in
set_option maxRecDepth 100000 in
theorem c_F_nextKind (l : Launch) (ca : Nat → ClassId) (D : va_G) (M : zM) (sz : Nat) (a0 : Nat) (post : Int32 → zM → Prop) : Met l y_F_nextKind (Cond.code y_F_nextKind prog_4_method_3_code 1 (some .int) :: zws) rm_F_nextKind (zPre ca D zcl (ztys ca) [.ref a0] M sz (w_F_nextKind M a0 post)) (va_Qi post (zB ca D zcl (ztys ca) (zA M sz)) (zA M sz)) 0 0 (zA M sz) := by
  refine z_met (cc := prog_4_method_3_code) (maxL := 1) (ret := (some .int)) (plainFor_of_name (by decide)) rfl (by simp [Value.category]) (Nat.le_of_ble_eq_true rfl) ?_
  intro p e s m args below meth c ls A hx hb hr hlk hml hts hown hnm hK hN hl hA0 hM hS hA h
  rw [← hA0]
  have hW : ∀ w ∈ zws, w.before args s = true := fun w hw => hts w (List.mem_cons_of_mem _ hw)
  have hl : zL ls 1 [(0, .ref a0)] := hl
  generalize hQ : MQ below (va_Qi post (zB ca D zcl (ztys ca) A) A) args s 0 0 A = Q
  have b_start : ∀ (M : zM) (H : Heap) (locs : List Loc) (ls : Array Slot) (a0 : Nat), zL ls 1 [(0, .ref a0)] → zW ca D zcl A M H → va_S A s.heap H locs → w_F_nextKind M a0 post → W p l e rm_F_nextKind s m args below meth c H locs 0 0 Q (F0 m 0 ls []) := by
    intro M H locs ls a0 hl hM hS h
    unfold w_F_nextKind at h
    refine lv_aload_n hx hb d_F_nextKind_0 rfl (hl.at 0 rfl) ?_
    obtain ⟨t1, h⟩ := h
    refine z_getI hx hb hW in_2 hown hK hM t1 (by decide) rfl 3 (by decide) rfl (hW _ k_173) rfl d_F_nextKind_1 ?_
    refine lv_aload_n hx hb d_F_nextKind_4 rfl (hl.at 0 rfl) ?_
    refine z_getI hx hb hW in_2 hown hK hM t1 (by decide) rfl 2 (by decide) rfl (hW _ k_172) rfl d_F_nextKind_5 ?_
    refine lv_icmp_ge (tgt := 35) hx hb d_F_nextKind_8 rfl (fun c2 => ?_) (fun c2 => ?_)
    · replace h := h.1 c2
      refine lv_iconst (v := (-1 : Int32)) hx hb d_F_nextKind_35 (by decide) ?_
      rw [← hQ]
      exact z_iret hx hb hr hlk hK hM hS h d_F_nextKind_36
    · replace h := h.2 c2
      refine lv_aload_n hx hb d_F_nextKind_11 rfl (hl.at 0 rfl) ?_
      refine z_getI hx hb hW in_2 hown hK hM t1 (by decide) rfl 3 (by decide) rfl (hW _ k_173) rfl d_F_nextKind_12 ?_
      refine lv_aload_n hx hb d_F_nextKind_15 rfl (hl.at 0 rfl) ?_
      refine z_getR hx hb hW in_2 hown hK hM t1 (by decide) rfl 0 (by decide) rfl (hW _ k_170) rfl d_F_nextKind_16 ?_
      obtain ⟨b3, hb4, h⟩ := h
      rw [hb4]
      obtain ⟨n6, t5, h⟩ := h
      refine z_alen hx hb hK hM t5 (by decide) 0 rfl d_F_nextKind_19 ?_
      refine lv_icmp_ge (tgt := 35) hx hb d_F_nextKind_20 rfl (fun c7 => ?_) (fun c7 => ?_)
      · replace h := h.1 c7
        refine lv_iconst (v := (-1 : Int32)) hx hb d_F_nextKind_35 (by decide) ?_
        rw [← hQ]
        exact z_iret hx hb hr hlk hK hM hS h d_F_nextKind_36
      · replace h := h.2 c7
        refine lv_aload_n hx hb d_F_nextKind_23 rfl (hl.at 0 rfl) ?_
        refine z_getR hx hb hW in_2 hown hK hM t1 (by decide) rfl 0 (by decide) rfl (hW _ k_170) rfl d_F_nextKind_24 ?_
        refine lv_aload_n hx hb d_F_nextKind_27 rfl (hl.at 0 rfl) ?_
        refine z_getI hx hb hW in_2 hown hK hM t1 (by decide) rfl 3 (by decide) rfl (hW _ k_173) rfl d_F_nextKind_28 ?_
        obtain ⟨b8, hb9, h⟩ := h
        rw [hb9]
        obtain ⟨n11, t10, h⟩ := h
        obtain ⟨i12, h⟩ := h
        refine z_iald hx hb hK hM t10 0 rfl i12 d_F_nextKind_31 ?_
        refine lv_goto (tgt := 36) hx hb d_F_nextKind_32 rfl ?_
        rw [← hQ]
        exact z_iret hx hb hr hlk hK hM hS h d_F_nextKind_36
  exact b_start M s.heap [] ls a0 hl hM hS h
set_option maxHeartbeats 4000000 in
set_option maxRecDepth 100000 in
theorem c_F_nextNumber (l : Launch) (ca : Nat → ClassId) (D : va_G) (M : zM) (sz : Nat) (a0 : Nat) (post : Int32 → zM → Prop) : Met l y_F_nextNumber (Cond.code y_F_nextNumber prog_4_method_4_code 1 (some .int) :: zws) rm_F_nextNumber (zPre ca D zcl (ztys ca) [.ref a0] M sz (w_F_nextNumber M a0 post)) (va_Qi post (zB ca D zcl (ztys ca) (zA M sz)) (zA M sz)) 0 0 (zA M sz) := by
  refine z_met (cc := prog_4_method_4_code) (maxL := 1) (ret := (some .int)) (plainFor_of_name (by decide)) rfl (by simp [Value.category]) (Nat.le_of_ble_eq_true rfl) ?_
  intro p e s m args below meth c ls A hx hb hr hlk hml hts hown hnm hK hN hl hA0 hM hS hA h
  rw [← hA0]
  have hW : ∀ w ∈ zws, w.before args s = true := fun w hw => hts w (List.mem_cons_of_mem _ hw)
  have hl : zL ls 1 [(0, .ref a0)] := hl
  generalize hQ : MQ below (va_Qi post (zB ca D zcl (ztys ca) A) A) args s 0 0 A = Q
  have b_start : ∀ (M : zM) (H : Heap) (locs : List Loc) (ls : Array Slot) (a0 : Nat), zL ls 1 [(0, .ref a0)] → zW ca D zcl A M H → va_S A s.heap H locs → w_F_nextNumber M a0 post → W p l e rm_F_nextNumber s m args below meth c H locs 0 0 Q (F0 m 0 ls []) := by
    intro M H locs ls a0 hl hM hS h
    unfold w_F_nextNumber at h
    refine lv_aload_n hx hb d_F_nextNumber_0 rfl (hl.at 0 rfl) ?_
    obtain ⟨t1, h⟩ := h
    refine z_getI hx hb hW in_2 hown hK hM t1 (by decide) rfl 3 (by decide) rfl (hW _ k_173) rfl d_F_nextNumber_1 ?_
    refine lv_aload_n hx hb d_F_nextNumber_4 rfl (hl.at 0 rfl) ?_
    refine z_getI hx hb hW in_2 hown hK hM t1 (by decide) rfl 2 (by decide) rfl (hW _ k_172) rfl d_F_nextNumber_5 ?_
    refine lv_icmp_ge (tgt := 35) hx hb d_F_nextNumber_8 rfl (fun c2 => ?_) (fun c2 => ?_)
    · replace h := h.1 c2
      refine lv_iconst (v := (-1 : Int32)) hx hb d_F_nextNumber_35 (by decide) ?_
      rw [← hQ]
      exact z_iret hx hb hr hlk hK hM hS h d_F_nextNumber_36
    · replace h := h.2 c2
      refine lv_aload_n hx hb d_F_nextNumber_11 rfl (hl.at 0 rfl) ?_
      refine z_getI hx hb hW in_2 hown hK hM t1 (by decide) rfl 3 (by decide) rfl (hW _ k_173) rfl d_F_nextNumber_12 ?_
      refine lv_aload_n hx hb d_F_nextNumber_15 rfl (hl.at 0 rfl) ?_
      refine z_getR hx hb hW in_2 hown hK hM t1 (by decide) rfl 1 (by decide) rfl (hW _ k_171) rfl d_F_nextNumber_16 ?_
      obtain ⟨b3, hb4, h⟩ := h
      rw [hb4]
      obtain ⟨n6, t5, h⟩ := h
      refine z_alen hx hb hK hM t5 (by decide) 0 rfl d_F_nextNumber_19 ?_
      refine lv_icmp_ge (tgt := 35) hx hb d_F_nextNumber_20 rfl (fun c7 => ?_) (fun c7 => ?_)
      · replace h := h.1 c7
        refine lv_iconst (v := (-1 : Int32)) hx hb d_F_nextNumber_35 (by decide) ?_
        rw [← hQ]
        exact z_iret hx hb hr hlk hK hM hS h d_F_nextNumber_36
      · replace h := h.2 c7
        refine lv_aload_n hx hb d_F_nextNumber_23 rfl (hl.at 0 rfl) ?_
        refine z_getR hx hb hW in_2 hown hK hM t1 (by decide) rfl 1 (by decide) rfl (hW _ k_171) rfl d_F_nextNumber_24 ?_
        refine lv_aload_n hx hb d_F_nextNumber_27 rfl (hl.at 0 rfl) ?_
        refine z_getI hx hb hW in_2 hown hK hM t1 (by decide) rfl 3 (by decide) rfl (hW _ k_173) rfl d_F_nextNumber_28 ?_
        obtain ⟨b8, hb9, h⟩ := h
        rw [hb9]
        obtain ⟨n11, t10, h⟩ := h
        obtain ⟨i12, h⟩ := h
        refine z_iald hx hb hK hM t10 0 rfl i12 d_F_nextNumber_31 ?_
        refine lv_goto (tgt := 36) hx hb d_F_nextNumber_32 rfl ?_
        rw [← hQ]
        exact z_iret hx hb hr hlk hK hM hS h d_F_nextNumber_36
  exact b_start M s.heap [] ls a0 hl hM hS h
set_option maxHeartbeats 4000000 in
set_option maxRecDepth 100000 in
theorem c_F_moveOn (l : Launch) (ca : Nat → ClassId) (D : va_G) (M : zM) (sz : Nat) (a0 : Nat) (post : zM → Prop) : Met l y_F_moveOn (Cond.code y_F_moveOn prog_4_method_5_code 1 none :: zws) rm_F_moveOn (zPre ca D zcl (ztys ca) [.ref a0] M sz (w_F_moveOn M a0 post)) (va_Qv post (zB ca D zcl (ztys ca) (zA M sz)) (zA M sz)) 0 0 (zA M sz) := by
  refine z_met (cc := prog_4_method_5_code) (maxL := 1) (ret := none) (plainFor_of_name (by decide)) rfl (by simp [Value.category]) (Nat.le_of_ble_eq_true rfl) ?_
  intro p e s m args below meth c ls A hx hb hr hlk hml hts hown hnm hK hN hl hA0 hM hS hA h
  rw [← hA0]
  have hW : ∀ w ∈ zws, w.before args s = true := fun w hw => hts w (List.mem_cons_of_mem _ hw)
  have hl : zL ls 1 [(0, .ref a0)] := hl
  generalize hQ : MQ below (va_Qv post (zB ca D zcl (ztys ca) A) A) args s 0 0 A = Q
  have b_start : ∀ (M : zM) (H : Heap) (locs : List Loc) (ls : Array Slot) (a0 : Nat), zL ls 1 [(0, .ref a0)] → zW ca D zcl A M H → va_S A s.heap H locs → w_F_moveOn M a0 post → W p l e rm_F_moveOn s m args below meth c H locs 0 0 Q (F0 m 0 ls []) := by
    intro M H locs ls a0 hl hM hS h
    unfold w_F_moveOn at h
    refine lv_aload_n hx hb d_F_moveOn_0 rfl (hl.at 0 rfl) ?_
    obtain ⟨t1, h⟩ := h
    refine z_getI hx hb hW in_2 hown hK hM t1 (by decide) rfl 3 (by decide) rfl (hW _ k_173) rfl d_F_moveOn_1 ?_
    refine lv_aload_n hx hb d_F_moveOn_4 rfl (hl.at 0 rfl) ?_
    refine z_getI hx hb hW in_2 hown hK hM t1 (by decide) rfl 2 (by decide) rfl (hW _ k_172) rfl d_F_moveOn_5 ?_
    refine lv_icmp_ge (tgt := 21) hx hb d_F_moveOn_8 rfl (fun c2 => ?_) (fun c2 => ?_)
    · replace h := h.1 c2
      rw [← hQ]
      exact z_vret hx hb hr hlk hK hM hS h d_F_moveOn_21
    · replace h := h.2 c2
      refine lv_aload_n hx hb d_F_moveOn_11 rfl (hl.at 0 rfl) ?_
      refine lv_dup hx hb d_F_moveOn_12 rfl ?_
      refine z_getI hx hb hW in_2 hown hK hM t1 (by decide) rfl 3 (by decide) rfl (hW _ k_173) rfl d_F_moveOn_13 ?_
      refine lv_iconst (v := (1 : Int32)) hx hb d_F_moveOn_16 (by decide) ?_
      refine lv_iadd hx hb d_F_moveOn_17 ?_
      refine z_putI hx hb hW in_2 ty_2 tyok_2 nm_2 hown hK hM hS t1 (by decide) rfl 3 (by decide) rfl (hW _ k_173) rfl (Or.inl rfl) rfl rfl d_F_moveOn_18 (fun H locs hM hS => ?_)
      obtain ⟨M3, e4⟩ : ∃ z, z = zwI M a0 3 ((zI M a0 3) + (1 : Int32)) := ⟨_, rfl⟩
      replace h := h M3 e4
      rw [← e4] at hM
      rw [← hQ]
      exact z_vret hx hb hr hlk hK hM hS h d_F_moveOn_21
  exact b_start M s.heap [] ls a0 hl hM hS h
set_option maxHeartbeats 4000000 in
set_option maxRecDepth 100000 in
theorem c_Q_init (l : Launch) (ca : Nat → ClassId) (D : va_G) (M : zM) (sz : Nat) (a0 : Nat) (x1 : Int32) (x2 : Int32) (x3 : Int32) (x4 : Int32) (x5 : Int32) (post : zM → Prop) : Met l y_Q_init (Cond.code y_Q_init prog_5_method_1_code 6 none :: zws) rm_Q_init (zPre ca D zcl (ztys ca) [.ref a0, .int x1, .int x2, .int x3, .int x4, .int x5] M sz (w_Q_init M a0 x1 x2 x3 x4 x5 post)) (va_Qv post (zB ca D zcl (ztys ca) (zA M sz)) (zA M sz)) 0 0 (zA M sz) := by
  refine z_met (cc := prog_5_method_1_code) (maxL := 6) (ret := none) (plainFor_of_name (by decide)) rfl (by simp [Value.category]) (Nat.le_of_ble_eq_true rfl) ?_
  intro p e s m args below meth c ls A hx hb hr hlk hml hts hown hnm hK hN hl hA0 hM hS hA h
  rw [← hA0]
  have hW : ∀ w ∈ zws, w.before args s = true := fun w hw => hts w (List.mem_cons_of_mem _ hw)
  have hl : zL ls 6 [(0, .ref a0), (1, .int x1), (2, .int x2), (3, .int x3), (4, .int x4), (5, .int x5)] := hl
  generalize hQ : MQ below (va_Qv post (zB ca D zcl (ztys ca) A) A) args s 0 0 A = Q
  have b_start : ∀ (M : zM) (H : Heap) (locs : List Loc) (ls : Array Slot) (a0 : Nat) (x1 : Int32) (x2 : Int32) (x3 : Int32) (x4 : Int32) (x5 : Int32), zL ls 6 [(0, .ref a0), (1, .int x1), (2, .int x2), (3, .int x3), (4, .int x4), (5, .int x5)] → zW ca D zcl A M H → va_S A s.heap H locs → w_Q_init M a0 x1 x2 x3 x4 x5 post → W p l e rm_Q_init s m args below meth c H locs 0 0 Q (F0 m 0 ls []) := by
    intro M H locs ls a0 x1 x2 x3 x4 x5 hl hM hS h
    unfold w_Q_init at h
    refine lv_aload_n hx hb d_Q_init_0 rfl (hl.at 0 rfl) ?_
    refine W.objInit hx hb hown (hW _ k_239) (hW _ k_18) (hW _ k_19) rfl (by rw [hml]; exact hl.1.1) rfl d_Q_init_1 (Nat.le_of_ble_eq_true rfl) (Nat.le_of_ble_eq_true rfl) ?_
    refine W.eq (g2 := F0 m 4 ls []) rfl ?_
    refine lv_aload_n hx hb d_Q_init_4 rfl (hl.at 0 rfl) ?_
    refine lv_iload_n hx hb d_Q_init_5 rfl (hl.at 1 rfl) ?_
    obtain ⟨t1, h⟩ := h
    refine z_putI hx hb hW in_3 ty_3 tyok_3 nm_3 hown hK hM hS t1 (by decide) rfl 0 (by decide) rfl (hW _ k_240) rfl (Or.inr ⟨rfl, hnm, rfl⟩) rfl rfl d_Q_init_6 (fun H locs hM hS => ?_)
    obtain ⟨M2, e3⟩ : ∃ z, z = zwI M a0 0 x1 := ⟨_, rfl⟩
    replace h := h M2 e3
    rw [← e3] at hM
    refine lv_aload_n hx hb d_Q_init_9 rfl (hl.at 0 rfl) ?_
    refine lv_iload_n hx hb d_Q_init_10 rfl (hl.at 2 rfl) ?_
    have t4 : zT M2 a0 = some (3, 12) := by rw [e3]; exact t1
    refine z_putI hx hb hW in_3 ty_3 tyok_3 nm_3 hown hK hM hS t4 (by decide) rfl 1 (by decide) rfl (hW _ k_244) rfl (Or.inr ⟨rfl, hnm, rfl⟩) rfl rfl d_Q_init_11 (fun H locs hM hS => ?_)
    obtain ⟨M5, e6⟩ : ∃ z, z = zwI M2 a0 1 x2 := ⟨_, rfl⟩
    replace h := h M5 e6
    rw [← e6] at hM
    refine lv_aload_n hx hb d_Q_init_14 rfl (hl.at 0 rfl) ?_
    refine lv_iload_n hx hb d_Q_init_15 rfl (hl.at 3 rfl) ?_
    have t7 : zT M5 a0 = some (3, 12) := by rw [e6]; exact t4
    obtain ⟨z8, h⟩ := h
    refine z_putI hx hb hW in_3 ty_3 tyok_3 nm_3 hown hK hM hS t7 (by decide) rfl 2 (by decide) rfl (hW _ k_247) rfl (Or.inr ⟨rfl, hnm, rfl⟩) (zb_n z8) (zb_f z8) d_Q_init_16 (fun H locs hM hS => ?_)
    obtain ⟨M9, e10⟩ : ∃ z, z = zwI M5 a0 2 x3 := ⟨_, rfl⟩
    replace h := h M9 e10
    rw [← e10] at hM
    refine lv_aload_n hx hb d_Q_init_19 rfl (hl.at 0 rfl) ?_
    refine lv_iload hx hb d_Q_init_20 (hl.at 4 rfl) ?_
    have t11 : zT M9 a0 = some (3, 12) := by rw [e10]; exact t7
    refine z_putI hx hb hW in_3 ty_3 tyok_3 nm_3 hown hK hM hS t11 (by decide) rfl 3 (by decide) rfl (hW _ k_250) rfl (Or.inr ⟨rfl, hnm, rfl⟩) rfl rfl d_Q_init_22 (fun H locs hM hS => ?_)
    obtain ⟨M12, e13⟩ : ∃ z, z = zwI M9 a0 3 x4 := ⟨_, rfl⟩
    replace h := h M12 e13
    rw [← e13] at hM
    refine lv_aload_n hx hb d_Q_init_25 rfl (hl.at 0 rfl) ?_
    refine lv_iload hx hb d_Q_init_26 (hl.at 5 rfl) ?_
    have t14 : zT M12 a0 = some (3, 12) := by rw [e13]; exact t11
    refine z_putI hx hb hW in_3 ty_3 tyok_3 nm_3 hown hK hM hS t14 (by decide) rfl 4 (by decide) rfl (hW _ k_252) rfl (Or.inr ⟨rfl, hnm, rfl⟩) rfl rfl d_Q_init_28 (fun H locs hM hS => ?_)
    obtain ⟨M15, e16⟩ : ∃ z, z = zwI M12 a0 4 x5 := ⟨_, rfl⟩
    replace h := h M15 e16
    rw [← e16] at hM
    refine lv_aload_n hx hb d_Q_init_31 rfl (hl.at 0 rfl) ?_
    refine lv_iconst (v := (0 : Int32)) hx hb d_Q_init_32 (by decide) ?_
    have t17 : zT M15 a0 = some (3, 12) := by rw [e16]; exact t14
    refine z_putI hx hb hW in_3 ty_3 tyok_3 nm_3 hown hK hM hS t17 (by decide) rfl 5 (by decide) rfl (hW _ k_254) rfl (Or.inl rfl) rfl rfl d_Q_init_33 (fun H locs hM hS => ?_)
    obtain ⟨M18, e19⟩ : ∃ z, z = zwI M15 a0 5 (0 : Int32) := ⟨_, rfl⟩
    replace h := h M18 e19
    rw [← e19] at hM
    refine lv_aload_n hx hb d_Q_init_36 rfl (hl.at 0 rfl) ?_
    refine lv_iconst (v := (0 : Int32)) hx hb d_Q_init_37 (by decide) ?_
    have t20 : zT M18 a0 = some (3, 12) := by rw [e19]; exact t17
    refine z_putI hx hb hW in_3 ty_3 tyok_3 nm_3 hown hK hM hS t20 (by decide) rfl 9 (by decide) rfl (hW _ k_261) rfl (Or.inl rfl) rfl rfl d_Q_init_38 (fun H locs hM hS => ?_)
    obtain ⟨M21, e22⟩ : ∃ z, z = zwI M18 a0 9 (0 : Int32) := ⟨_, rfl⟩
    replace h := h M21 e22
    rw [← e22] at hM
    rw [← hQ]
    exact z_vret hx hb hr hlk hK hM hS h d_Q_init_41
  exact b_start M s.heap [] ls a0 x1 x2 x3 x4 x5 hl hM hS h
set_option maxHeartbeats 4000000 in
set_option maxRecDepth 100000 in
theorem c_O_init (l : Launch) (ca : Nat → ClassId) (D : va_G) (M : zM) (sz : Nat) (a0 : Nat) (post : zM → Prop) : Met l y_O_init (Cond.code y_O_init prog_6_method_1_code 1 none :: zws) rm_O_init (zPre ca D zcl (ztys ca) [.ref a0] M sz (w_O_init M a0 post)) (va_Qv post (zB ca D zcl (ztys ca) (zA M sz)) (zA M sz)) 0 0 (zA M sz) := by
  refine z_met (cc := prog_6_method_1_code) (maxL := 1) (ret := none) (plainFor_of_name (by decide)) rfl (by simp [Value.category]) (Nat.le_of_ble_eq_true rfl) ?_
  intro p e s m args below meth c ls A hx hb hr hlk hml hts hown hnm hK hN hl hA0 hM hS hA h
  rw [← hA0]
  have hW : ∀ w ∈ zws, w.before args s = true := fun w hw => hts w (List.mem_cons_of_mem _ hw)
  have hl : zL ls 1 [(0, .ref a0)] := hl
  generalize hQ : MQ below (va_Qv post (zB ca D zcl (ztys ca) A) A) args s 0 0 A = Q
  have b_start : ∀ (M : zM) (H : Heap) (locs : List Loc) (ls : Array Slot) (a0 : Nat), zL ls 1 [(0, .ref a0)] → zW ca D zcl A M H → va_S A s.heap H locs → w_O_init M a0 post → W p l e rm_O_init s m args below meth c H locs 0 0 Q (F0 m 0 ls []) := by
    intro M H locs ls a0 hl hM hS h
    unfold w_O_init at h
    refine lv_aload_n hx hb d_O_init_0 rfl (hl.at 0 rfl) ?_
    refine W.objInit hx hb hown (hW _ k_32) (hW _ k_18) (hW _ k_19) rfl (by rw [hml]; exact hl.1.1) rfl d_O_init_1 (Nat.le_of_ble_eq_true rfl) (Nat.le_of_ble_eq_true rfl) ?_
    refine W.eq (g2 := F0 m 4 ls []) rfl ?_
    rw [← hQ]
    exact z_vret hx hb hr hlk hK hM hS h d_O_init_4
  exact b_start M s.heap [] ls a0 hl hM hS h
set_option maxHeartbeats 4000000 in
set_option maxRecDepth 100000 in
theorem c_T_init (l : Launch) (ca : Nat → ClassId) (D : va_G) (M : zM) (sz : Nat) (a0 : Nat) (post : zM → Prop) : Met l y_T_init (Cond.code y_T_init prog_9_method_1_code 1 none :: zws) rm_T_init (zPre ca D zcl (ztys ca) [.ref a0] M sz (w_T_init M a0 post)) (va_Qv post (zB ca D zcl (ztys ca) (zA M sz)) (zA M sz)) 3 70 (zA M sz) := by
  refine z_met (cc := prog_9_method_1_code) (maxL := 1) (ret := none) (plainFor_of_name (by decide)) rfl (by simp [Value.category]) (Nat.le_of_ble_eq_true rfl) ?_
  intro p e s m args below meth c ls A hx hb hr hlk hml hts hown hnm hK hN hl hA0 hM hS hA h
  rw [← hA0]
  have hW : ∀ w ∈ zws, w.before args s = true := fun w hw => hts w (List.mem_cons_of_mem _ hw)
  have hl : zL ls 1 [(0, .ref a0)] := hl
  generalize hQ : MQ below (va_Qv post (zB ca D zcl (ztys ca) A) A) args s 3 70 A = Q
  have b_start : ∀ (M : zM) (H : Heap) (locs : List Loc) (ls : Array Slot) (a0 : Nat), zL ls 1 [(0, .ref a0)] → zW ca D zcl A M H → va_S A s.heap H locs → w_T_init M a0 post → W p l e rm_T_init s m args below meth c H locs 0 0 Q (F0 m 0 ls []) := by
    intro M H locs ls a0 hl hM hS h
    unfold w_T_init at h
    refine lv_aload_n hx hb d_T_init_0 rfl (hl.at 0 rfl) ?_
    refine W.objInit hx hb hown (hW _ k_53) (hW _ k_18) (hW _ k_19) rfl (by rw [hml]; exact hl.1.1) rfl d_T_init_1 (Nat.le_of_ble_eq_true rfl) (Nat.le_of_ble_eq_true rfl) ?_
    refine W.eq (g2 := F0 m 4 ls []) rfl ?_
    refine lv_aload_n hx hb d_T_init_4 rfl (hl.at 0 rfl) ?_
    refine lv_iconst (v := (5 : Int32)) hx hb d_T_init_5 (by decide) ?_
    refine z_newP (atype := .int) hx hb (hW _ k_85) rfl hK hM hS hA (by decide) 0 rfl (by decide) (N' := 5) (by decide) (by decide) (by decide) (by decide) d_T_init_6 (fun q1 H hq2 hM hS => ?_)
    replace h := h q1 hq2
    obtain ⟨M3, e4⟩ : ∃ z, z = znw M q1 (20, 5) := ⟨_, rfl⟩
    replace h := h M3 e4
    rw [← e4] at hM
    have t5 : zT M3 q1 = some (20, 5) := by rw [e4, zT_nw, if_pos rfl]
    obtain ⟨t6, h⟩ := h
    refine z_putR (v := some q1) hx hb hW in_7 ty_7 tyok_7 nm_7 hown hK hM hS t6 (by decide) rfl 0 (by decide) rfl (hW _ k_56) rfl (Or.inr ⟨rfl, hnm, rfl⟩) rfl rfl d_T_init_8 (fun H locs hM hS => ?_)
    obtain ⟨M7, e8⟩ : ∃ z, z = zwR M3 a0 0 (some q1) := ⟨_, rfl⟩
    replace h := h M7 e8
    rw [← e8] at hM
    refine lv_aload_n hx hb d_T_init_11 rfl (hl.at 0 rfl) ?_
    refine lv_iconst (v := (5 : Int32)) hx hb d_T_init_12 (by decide) ?_
    refine z_newP (atype := .int) hx hb (hW _ k_85) rfl hK hM hS hA (by decide) 0 rfl (by decide) (N' := 5) (by decide) (by decide) (by decide) (by decide) d_T_init_13 (fun q9 H hq10 hM hS => ?_)
    replace h := h q9 hq10
    obtain ⟨M11, e12⟩ : ∃ z, z = znw M7 q9 (20, 5) := ⟨_, rfl⟩
    replace h := h M11 e12
    rw [← e12] at hM
    have t13 : zT M11 q9 = some (20, 5) := by rw [e12, zT_nw, if_pos rfl]
    obtain ⟨t14, h⟩ := h
    refine z_putR (v := some q9) hx hb hW in_7 ty_7 tyok_7 nm_7 hown hK hM hS t14 (by decide) rfl 1 (by decide) rfl (hW _ k_57) rfl (Or.inr ⟨rfl, hnm, rfl⟩) rfl rfl d_T_init_15 (fun H locs hM hS => ?_)
    obtain ⟨M15, e16⟩ : ∃ z, z = zwR M11 a0 1 (some q9) := ⟨_, rfl⟩
    replace h := h M15 e16
    rw [← e16] at hM
    refine lv_aload_n hx hb d_T_init_18 rfl (hl.at 0 rfl) ?_
    refine lv_bipush (v := (60 : Int32)) hx hb d_T_init_19 (by decide) ?_
    refine z_newA hx hb hown (hW _ k_54) (hN.2.2.2.1) hK hM hS hA (kd := 23) (by decide) 3 rfl (by decide) (N' := 60) (by decide) (by decide) (by decide) (by decide) d_T_init_21 (fun q17 H hq18 hM hS => ?_)
    replace h := h q17 hq18
    obtain ⟨M19, e20⟩ : ∃ z, z = znw M15 q17 (23, 60) := ⟨_, rfl⟩
    replace h := h M19 e20
    rw [← e20] at hM
    have t21 : zT M19 q17 = some (23, 60) := by rw [e20, zT_nw, if_pos rfl]
    obtain ⟨t22, h⟩ := h
    refine z_putR (v := some q17) hx hb hW in_7 ty_7 tyok_7 nm_7 hown hK hM hS t22 (by decide) rfl 2 (by decide) rfl (hW _ k_58) rfl (Or.inr ⟨rfl, hnm, rfl⟩) rfl rfl d_T_init_24 (fun H locs hM hS => ?_)
    obtain ⟨M23, e24⟩ : ∃ z, z = zwR M19 a0 2 (some q17) := ⟨_, rfl⟩
    replace h := h M23 e24
    rw [← e24] at hM
    rw [← hQ]
    exact z_vret hx hb hr hlk hK hM hS h d_T_init_27
  exact b_start M s.heap [] ls a0 hl hM hS h
set_option maxHeartbeats 4000000 in
set_option maxRecDepth 100000 in
theorem c_S_init (l : Launch) (ca : Nat → ClassId) (D : va_G) (M : zM) (sz : Nat) (a0 : Nat) (post : zM → Prop) : Met l y_S_init (Cond.code y_S_init prog_7_method_1_code 2 none :: zws) rm_S_init (zPre ca D zcl (ztys ca) [.ref a0] M sz (w_S_init M a0 post)) (va_Qv post (zB ca D zcl (ztys ca) (zA M sz)) (zA M sz)) 12 112 (zA M sz) := by
  refine z_met (cc := prog_7_method_1_code) (maxL := 2) (ret := none) (plainFor_of_name (by decide)) rfl (by simp [Value.category]) (Nat.le_of_ble_eq_true rfl) ?_
  intro p e s m args below meth c ls A hx hb hr hlk hml hts hown hnm hK hN hl hA0 hM hS hA h
  rw [← hA0]
  have hW : ∀ w ∈ zws, w.before args s = true := fun w hw => hts w (List.mem_cons_of_mem _ hw)
  have hl : zL ls 2 [(0, .ref a0)] := hl
  generalize hQ : MQ below (va_Qv post (zB ca D zcl (ztys ca) A) A) args s 12 112 A = Q
  have b_15 : ∀ (n : Nat) (M : zM) (H : Heap) (locs : List Loc) (ls : Array Slot) (cc ss : Nat) (a0 : Nat) (x1 : Int32), zL ls 2 [(0, .ref a0), (1, .int x1)] → zW ca D zcl A M H → va_S A s.heap H locs → cc + n * 1 ≤ 8 → ss + n * 4 ≤ 34 → w_S_init_15 post n M a0 x1 → W p l e rm_S_init s m args below meth c H locs cc ss Q (F0 m 15 ls []) := by
    intro n
    induction n with
    | zero =>
      intro M H locs ls cc ss a0 x1 hl hM hS k1 k2 h
      exact False.elim h
    | succ n ih =>
      intro M H locs ls cc ss a0 x1 hl hM hS k1 k2 h
      rw [w_S_init_15] at h
      refine lv_iload_n hx hb d_S_init_15 rfl (hl.at 1 rfl) ?_
      refine lv_aload_n hx hb d_S_init_16 rfl (hl.at 0 rfl) ?_
      obtain ⟨t9, h⟩ := h
      refine z_getR hx hb hW in_5 hown hK hM t9 (by decide) rfl 0 (by decide) rfl (hW _ k_86) rfl d_S_init_17 ?_
      obtain ⟨b10, hb11, h⟩ := h
      rw [hb11]
      obtain ⟨n13, t12, h⟩ := h
      refine z_alen hx hb hK hM t12 (by decide) 4 rfl d_S_init_20 ?_
      refine lv_icmp_ge (tgt := 43) hx hb d_S_init_21 rfl (fun c14 => ?_) (fun c14 => ?_)
      · replace h := h.1 c14
        refine W.widen (k := 8) (n := 34) (by omega) (by omega) ?_
        refine lv_aload_n hx hb d_S_init_43 rfl (hl.at 0 rfl) ?_
        refine z_new (ci := 7) hx hb hW in_7 ty_7 tyok_7 hown (hW _ k_48) (hW _ k_49) (hW _ k_4) hK hM hS hA (by decide) rfl df_7 (by decide) (by decide) d_S_init_44 (fun q15 H hq16 hM hS => ?_)
        replace h := h q15 hq16
        obtain ⟨M17, e18⟩ : ∃ z, z = znw M q15 (7, 8) := ⟨_, rfl⟩
        replace h := h M17 e18
        rw [← e18] at hM
        have t19 : zT M17 q15 = some (7, 8) := by rw [e18, zT_nw, if_pos rfl]
        refine lv_dup hx hb d_S_init_47 rfl ?_
        refine z_ctv (mc := 3) (ms := 70) (va_runI (As := []) (rest := [.ref q15, .ref a0]) ⟨hx, hb, hml, hown, hW⟩ (c_T_init l ca D M17 H.size q15 _) (cw_T_init hW k_50 ⟨by decide, by decide⟩) (zPre_S hK hN hM h) rfl rfl hl.1.1 rfl (lv_room (Nat.le_of_ble_eq_true rfl)) d_S_init_48 ⟨by decide, by decide⟩) hM hS hA (fun M20 H locs h hM hS => ?_)
        obtain ⟨t21, h⟩ := h
        refine z_putR (v := some q15) hx hb hW in_5 ty_5 tyok_5 nm_5 hown hK hM hS t21 (by decide) rfl 1 (by decide) rfl (hW _ k_87) rfl (Or.inr ⟨rfl, hnm, rfl⟩) rfl rfl d_S_init_51 (fun H locs hM hS => ?_)
        obtain ⟨M22, e23⟩ : ∃ z, z = zwR M20 a0 1 (some q15) := ⟨_, rfl⟩
        replace h := h M22 e23
        rw [← e23] at hM
        refine W.widen (k := 12) (n := 112) (by decide) (by decide) ?_
        rw [← hQ]
        exact z_vret hx hb hr hlk hK hM hS h d_S_init_54
      · replace h := h.2 c14
        refine lv_aload_n hx hb d_S_init_24 rfl (hl.at 0 rfl) ?_
        refine z_getR hx hb hW in_5 hown hK hM t9 (by decide) rfl 0 (by decide) rfl (hW _ k_86) rfl d_S_init_25 ?_
        refine lv_iload_n hx hb d_S_init_28 rfl (hl.at 1 rfl) ?_
        refine z_new (ci := 4) hx hb hW in_4 ty_4 tyok_4 hown (hW _ k_26) (hW _ k_28) (hW _ k_3) hK hM hS hA (by decide) rfl df_4 (Nat.le_trans (m := 8) (by omega) (by decide)) (Nat.le_trans (m := 34) (by omega) (by decide)) d_S_init_29 (fun q24 H hq25 hM hS => ?_)
        replace h := h q24 hq25
        obtain ⟨M26, e27⟩ : ∃ z, z = znw M q24 (4, 4) := ⟨_, rfl⟩
        replace h := h M26 e27
        rw [← e27] at hM
        have t28 : zT M26 q24 = some (4, 4) := by rw [e27, zT_nw, if_pos rfl]
        refine lv_dup hx hb d_S_init_32 rfl ?_
        refine z_ctv (mc := 0) (ms := 0) (va_runIN (As := []) (rest := [.ref q24, .int x1, va_rf (zR M a0 0)]) ⟨hx, hb, hml, hown, hW⟩ (c_O_init l ca D M26 H.size q24 _) (cw_O_init hW (hN.1) ⟨by decide, by decide⟩) (zPre_S hK hN hM h) rfl rfl hl.1.1 rfl (lv_room (Nat.le_trans (zc_cons rfl (zc_cons rfl (zc_cons (z_cat _) (zc_nil)))) (by decide))) d_S_init_33 ⟨Nat.le_trans (m := 8) (by omega) (by decide), Nat.le_trans (m := 34) (by omega) (by decide)⟩) hM hS hA (fun M29 H locs h hM hS => ?_)
        obtain ⟨b30, hb31, h⟩ := h
        rw [hb31]
        obtain ⟨n33, t32, h⟩ := h
        obtain ⟨t34, h⟩ := h
        obtain ⟨i35, h⟩ := h
        refine z_aast hx hb hK hM hS t32 (by decide) 4 rfl t34 (by decide) rfl i35 d_S_init_36 (fun H locs hM hS => ?_)
        obtain ⟨M36, e37⟩ : ∃ z, z = zwR M29 b30 x1.toNatClampNeg (some q24) := ⟨_, rfl⟩
        replace h := h M36 e37
        rw [← e37] at hM
        refine z_iinc (k := 1) (v := x1 + (1 : Int32)) hx hb d_S_init_37 hl rfl rfl (by decide) rfl (fun ls hl => ?_)
        have hl : zL ls 2 [(1, .int (x1 + (1 : Int32))), (0, .ref a0)] := hl
        refine lv_goto (tgt := 15) hx hb d_S_init_40 rfl ?_
        exact ih M36 H locs ls _ _ a0 (x1 + (1 : Int32)) (hl.sub [1, 0] rfl) hM hS (by omega) (by omega) h
  have b_start : ∀ (M : zM) (H : Heap) (locs : List Loc) (ls : Array Slot) (a0 : Nat), zL ls 2 [(0, .ref a0)] → zW ca D zcl A M H → va_S A s.heap H locs → w_S_init M a0 post → W p l e rm_S_init s m args below meth c H locs 0 0 Q (F0 m 0 ls []) := by
    intro M H locs ls a0 hl hM hS h
    unfold w_S_init at h
    refine lv_aload_n hx hb d_S_init_0 rfl (hl.at 0 rfl) ?_
    refine W.objInit hx hb hown (hW _ k_25) (hW _ k_18) (hW _ k_19) rfl (by rw [hml]; exact hl.1.1) rfl d_S_init_1 (Nat.le_of_ble_eq_true rfl) (Nat.le_of_ble_eq_true rfl) ?_
    refine W.eq (g2 := F0 m 4 ls []) rfl ?_
    refine lv_aload_n hx hb d_S_init_4 rfl (hl.at 0 rfl) ?_
    refine lv_bipush (v := (6 : Int32)) hx hb d_S_init_5 (by decide) ?_
    refine z_newA hx hb hown (hW _ k_26) (hN.2.2.2.2.1) hK hM hS hA (kd := 24) (by decide) 4 rfl (by decide) (N' := 6) (by decide) (by decide) (by decide) (by decide) d_S_init_7 (fun q1 H hq2 hM hS => ?_)
    replace h := h q1 hq2
    obtain ⟨M3, e4⟩ : ∃ z, z = znw M q1 (24, 6) := ⟨_, rfl⟩
    replace h := h M3 e4
    rw [← e4] at hM
    have t5 : zT M3 q1 = some (24, 6) := by rw [e4, zT_nw, if_pos rfl]
    obtain ⟨t6, h⟩ := h
    refine z_putR (v := some q1) hx hb hW in_5 ty_5 tyok_5 nm_5 hown hK hM hS t6 (by decide) rfl 0 (by decide) rfl (hW _ k_86) rfl (Or.inr ⟨rfl, hnm, rfl⟩) rfl rfl d_S_init_10 (fun H locs hM hS => ?_)
    obtain ⟨M7, e8⟩ : ∃ z, z = zwR M3 a0 0 (some q1) := ⟨_, rfl⟩
    replace h := h M7 e8
    rw [← e8] at hM
    refine lv_iconst (v := (0 : Int32)) hx hb d_S_init_13 (by decide) ?_
    refine z_istore_n hx hb d_S_init_14 rfl hl (by decide) rfl (fun ls hl => ?_)
    have hl : zL ls 2 [(1, .int (0 : Int32)), (0, .ref a0)] := hl
    exact b_15 7 M7 H locs ls 1 6 a0 (0 : Int32) (hl.sub [1, 0] rfl) hM hS (by decide) (by decide) h
  exact b_start M s.heap [] ls a0 hl hM hS h
set_option maxHeartbeats 4000000 in
set_option maxRecDepth 100000 in
theorem c_S_resourceAt (l : Launch) (ca : Nat → ClassId) (D : va_G) (M : zM) (sz : Nat) (a0 : Nat) (x1 : Int32) (post : Option Nat → zM → Prop) : Met l y_S_resourceAt (Cond.code y_S_resourceAt prog_7_method_2_code 2 (some (.object "TabledOrigin$Resource")) :: zws) rm_S_resourceAt (zPre ca D zcl (ztys ca) [.ref a0, .int x1] M sz (w_S_resourceAt M a0 x1 post)) (va_Qq post (zB ca D zcl (ztys ca) (zA M sz)) (zA M sz)) 0 0 (zA M sz) := by
  refine z_met (cc := prog_7_method_2_code) (maxL := 2) (ret := (some (.object "TabledOrigin$Resource"))) (plainFor_of_name (by decide)) rfl (by simp [Value.category]) (Nat.le_of_ble_eq_true rfl) ?_
  intro p e s m args below meth c ls A hx hb hr hlk hml hts hown hnm hK hN hl hA0 hM hS hA h
  rw [← hA0]
  have hW : ∀ w ∈ zws, w.before args s = true := fun w hw => hts w (List.mem_cons_of_mem _ hw)
  have hl : zL ls 2 [(0, .ref a0), (1, .int x1)] := hl
  generalize hQ : MQ below (va_Qq post (zB ca D zcl (ztys ca) A) A) args s 0 0 A = Q
  have b_start : ∀ (M : zM) (H : Heap) (locs : List Loc) (ls : Array Slot) (a0 : Nat) (x1 : Int32), zL ls 2 [(0, .ref a0), (1, .int x1)] → zW ca D zcl A M H → va_S A s.heap H locs → w_S_resourceAt M a0 x1 post → W p l e rm_S_resourceAt s m args below meth c H locs 0 0 Q (F0 m 0 ls []) := by
    intro M H locs ls a0 x1 hl hM hS h
    unfold w_S_resourceAt at h
    refine lv_iload_n hx hb d_S_resourceAt_0 rfl (hl.at 1 rfl) ?_
    refine lv_if_lt (tgt := 22) hx hb d_S_resourceAt_1 rfl (fun c1 => ?_) (fun c1 => ?_)
    · replace h := h.1 c1
      refine lv_null hx hb d_S_resourceAt_22 ?_
      rw [← hQ]
      exact z_aret (v := none) hx hb hr hlk hK hM hS h d_S_resourceAt_23
    · replace h := h.2 c1
      refine lv_iload_n hx hb d_S_resourceAt_4 rfl (hl.at 1 rfl) ?_
      refine lv_aload_n hx hb d_S_resourceAt_5 rfl (hl.at 0 rfl) ?_
      obtain ⟨t2, h⟩ := h
      refine z_getR hx hb hW in_5 hown hK hM t2 (by decide) rfl 0 (by decide) rfl (hW _ k_86) rfl d_S_resourceAt_6 ?_
      obtain ⟨b3, hb4, h⟩ := h
      rw [hb4]
      obtain ⟨n6, t5, h⟩ := h
      refine z_alen hx hb hK hM t5 (by decide) 4 rfl d_S_resourceAt_9 ?_
      refine lv_icmp_ge (tgt := 22) hx hb d_S_resourceAt_10 rfl (fun c7 => ?_) (fun c7 => ?_)
      · replace h := h.1 c7
        refine lv_null hx hb d_S_resourceAt_22 ?_
        rw [← hQ]
        exact z_aret (v := none) hx hb hr hlk hK hM hS h d_S_resourceAt_23
      · replace h := h.2 c7
        refine lv_aload_n hx hb d_S_resourceAt_13 rfl (hl.at 0 rfl) ?_
        refine z_getR hx hb hW in_5 hown hK hM t2 (by decide) rfl 0 (by decide) rfl (hW _ k_86) rfl d_S_resourceAt_14 ?_
        refine lv_iload_n hx hb d_S_resourceAt_17 rfl (hl.at 1 rfl) ?_
        obtain ⟨b8, hb9, h⟩ := h
        rw [hb9]
        obtain ⟨n11, t10, h⟩ := h
        obtain ⟨i12, h⟩ := h
        refine z_aald hx hb hK hM t10 (by decide) 4 rfl i12 d_S_resourceAt_18 ?_
        refine lv_goto (tgt := 23) hx hb d_S_resourceAt_19 rfl ?_
        rw [← hQ]
        exact z_aret (v := zR M b8 x1.toNatClampNeg) hx hb hr hlk hK hM hS h d_S_resourceAt_23
  exact b_start M s.heap [] ls a0 x1 hl hM hS h
set_option maxHeartbeats 4000000 in
set_option maxRecDepth 100000 in
theorem c_S_write (l : Launch) (ca : Nat → ClassId) (D : va_G) (M : zM) (sz : Nat) (a0 : Nat) (a1 : Nat) (x2 : Int32) (x3 : Int32) (post : zM → Prop) : Met l y_S_write (Cond.code y_S_write prog_7_method_3_code 4 none :: zws) rm_S_write (zPre ca D zcl (ztys ca) [.ref a0, .ref a1, .int x2, .int x3] M sz (w_S_write M a0 a1 x2 x3 post)) (va_Qv post (zB ca D zcl (ztys ca) (zA M sz)) (zA M sz)) 0 0 (zA M sz) := by
  refine z_met (cc := prog_7_method_3_code) (maxL := 4) (ret := none) (plainFor_of_name (by decide)) rfl (by simp [Value.category]) (Nat.le_of_ble_eq_true rfl) ?_
  intro p e s m args below meth c ls A hx hb hr hlk hml hts hown hnm hK hN hl hA0 hM hS hA h
  rw [← hA0]
  have hW : ∀ w ∈ zws, w.before args s = true := fun w hw => hts w (List.mem_cons_of_mem _ hw)
  have hl : zL ls 4 [(0, .ref a0), (1, .ref a1), (2, .int x2), (3, .int x3)] := hl
  generalize hQ : MQ below (va_Qv post (zB ca D zcl (ztys ca) A) A) args s 0 0 A = Q
  have b_start : ∀ (M : zM) (H : Heap) (locs : List Loc) (ls : Array Slot) (a0 : Nat) (a1 : Nat) (x2 : Int32) (x3 : Int32), zL ls 4 [(0, .ref a0), (1, .ref a1), (2, .int x2), (3, .int x3)] → zW ca D zcl A M H → va_S A s.heap H locs → w_S_write M a0 a1 x2 x3 post → W p l e rm_S_write s m args below meth c H locs 0 0 Q (F0 m 0 ls []) := by
    intro M H locs ls a0 a1 x2 x3 hl hM hS h
    unfold w_S_write at h
    refine lv_aload_n hx hb d_S_write_0 rfl (hl.at 0 rfl) ?_
    refine lv_dup hx hb d_S_write_1 rfl ?_
    obtain ⟨t1, h⟩ := h
    refine z_getI hx hb hW in_5 hown hK hM t1 (by decide) rfl 2 (by decide) rfl (hW _ k_89) rfl d_S_write_2 ?_
    refine lv_iconst (v := (1 : Int32)) hx hb d_S_write_5 (by decide) ?_
    refine lv_iadd hx hb d_S_write_6 ?_
    refine z_putI hx hb hW in_5 ty_5 tyok_5 nm_5 hown hK hM hS t1 (by decide) rfl 2 (by decide) rfl (hW _ k_89) rfl (Or.inl rfl) rfl rfl d_S_write_7 (fun H locs hM hS => ?_)
    obtain ⟨M2, e3⟩ : ∃ z, z = zwI M a0 2 ((zI M a0 2) + (1 : Int32)) := ⟨_, rfl⟩
    replace h := h M2 e3
    rw [← e3] at hM
    refine lv_aload_n hx hb d_S_write_10 rfl (hl.at 1 rfl) ?_
    refine lv_iconst (v := (1 : Int32)) hx hb d_S_write_11 (by decide) ?_
    obtain ⟨t4, h⟩ := h
    refine z_putI hx hb hW in_4 ty_4 tyok_4 nm_4 hown hK hM hS t4 (by decide) rfl 0 (by decide) rfl (hW _ k_33) rfl (Or.inl rfl) rfl rfl d_S_write_12 (fun H locs hM hS => ?_)
    obtain ⟨M5, e6⟩ : ∃ z, z = zwI M2 a1 0 (1 : Int32) := ⟨_, rfl⟩
    replace h := h M5 e6
    rw [← e6] at hM
    refine lv_aload_n hx hb d_S_write_15 rfl (hl.at 1 rfl) ?_
    refine lv_aload_n hx hb d_S_write_16 rfl (hl.at 0 rfl) ?_
    have t7 : zT M5 a0 = some (5, 6) := by rw [e6, e3]; exact t1
    refine z_getI hx hb hW in_5 hown hK hM t7 (by decide) rfl 2 (by decide) rfl (hW _ k_89) rfl d_S_write_17 ?_
    have t8 : zT M5 a1 = some (4, 4) := by rw [e6]; exact t4
    refine z_putI hx hb hW in_4 ty_4 tyok_4 nm_4 hown hK hM hS t8 (by decide) rfl 1 (by decide) rfl (hW _ k_36) rfl (Or.inl rfl) rfl rfl d_S_write_20 (fun H locs hM hS => ?_)
    obtain ⟨M9, e10⟩ : ∃ z, z = zwI M5 a1 1 (zI M5 a0 2) := ⟨_, rfl⟩
    replace h := h M9 e10
    rw [← e10] at hM
    refine lv_aload_n hx hb d_S_write_23 rfl (hl.at 1 rfl) ?_
    refine lv_iload_n hx hb d_S_write_24 rfl (hl.at 2 rfl) ?_
    have t11 : zT M9 a1 = some (4, 4) := by rw [e10]; exact t8
    refine z_putI hx hb hW in_4 ty_4 tyok_4 nm_4 hown hK hM hS t11 (by decide) rfl 2 (by decide) rfl (hW _ k_37) rfl (Or.inl rfl) rfl rfl d_S_write_25 (fun H locs hM hS => ?_)
    obtain ⟨M12, e13⟩ : ∃ z, z = zwI M9 a1 2 x2 := ⟨_, rfl⟩
    replace h := h M12 e13
    rw [← e13] at hM
    refine lv_aload_n hx hb d_S_write_28 rfl (hl.at 1 rfl) ?_
    refine lv_iload_n hx hb d_S_write_29 rfl (hl.at 3 rfl) ?_
    have t14 : zT M12 a1 = some (4, 4) := by rw [e13]; exact t11
    refine z_putI hx hb hW in_4 ty_4 tyok_4 nm_4 hown hK hM hS t14 (by decide) rfl 3 (by decide) rfl (hW _ k_38) rfl (Or.inl rfl) rfl rfl d_S_write_30 (fun H locs hM hS => ?_)
    obtain ⟨M15, e16⟩ : ∃ z, z = zwI M12 a1 3 x3 := ⟨_, rfl⟩
    replace h := h M15 e16
    rw [← e16] at hM
    rw [← hQ]
    exact z_vret hx hb hr hlk hK hM hS h d_S_write_33
  exact b_start M s.heap [] ls a0 a1 x2 x3 hl hM hS h
set_option maxHeartbeats 4000000 in
set_option maxRecDepth 100000 in
theorem c_T_outstandingNeeding (l : Launch) (ca : Nat → ClassId) (D : va_G) (M : zM) (sz : Nat) (a0 : Nat) (x1 : Int32) (post : Int32 → zM → Prop) : Met l y_T_outstandingNeeding (Cond.code y_T_outstandingNeeding prog_9_method_9_code 5 (some .int) :: zws) rm_T_outstandingNeeding (zPre ca D zcl (ztys ca) [.ref a0, .int x1] M sz (w_T_outstandingNeeding M a0 x1 post)) (va_Qi post (zB ca D zcl (ztys ca) (zA M sz)) (zA M sz)) 0 0 (zA M sz) := by
  refine z_met (cc := prog_9_method_9_code) (maxL := 5) (ret := (some .int)) (plainFor_of_name (by decide)) rfl (by simp [Value.category]) (Nat.le_of_ble_eq_true rfl) ?_
  intro p e s m args below meth c ls A hx hb hr hlk hml hts hown hnm hK hN hl hA0 hM hS hA h
  rw [← hA0]
  have hW : ∀ w ∈ zws, w.before args s = true := fun w hw => hts w (List.mem_cons_of_mem _ hw)
  have hl : zL ls 5 [(0, .ref a0), (1, .int x1)] := hl
  generalize hQ : MQ below (va_Qi post (zB ca D zcl (ztys ca) A) A) args s 0 0 A = Q
  have b_4 : ∀ (n : Nat) (M : zM) (H : Heap) (locs : List Loc) (ls : Array Slot) (a0 : Nat) (x1 : Int32) (x2 : Int32) (x3 : Int32), zL ls 5 [(0, .ref a0), (1, .int x1), (2, .int x2), (3, .int x3)] → zW ca D zcl A M H → va_S A s.heap H locs → w_T_outstandingNeeding_4 post n M a0 x1 x2 x3 → W p l e rm_T_outstandingNeeding s m args below meth c H locs 0 0 Q (F0 m 4 ls []) := by
    intro n
    induction n with
    | zero =>
      intro M H locs ls a0 x1 x2 x3 hl hM hS h
      exact False.elim h
    | succ n ih =>
      intro M H locs ls a0 x1 x2 x3 hl hM hS h
      rw [w_T_outstandingNeeding_4] at h
      refine lv_iload_n hx hb d_T_outstandingNeeding_4 rfl (hl.at 3 rfl) ?_
      refine lv_aload_n hx hb d_T_outstandingNeeding_5 rfl (hl.at 0 rfl) ?_
      obtain ⟨t1, h⟩ := h
      refine z_getI hx hb hW in_7 hown hK hM t1 (by decide) rfl 3 (by decide) rfl (hW _ k_59) rfl d_T_outstandingNeeding_6 ?_
      refine lv_icmp_ge (tgt := 60) hx hb d_T_outstandingNeeding_9 rfl (fun c2 => ?_) (fun c2 => ?_)
      · replace h := h.1 c2
        refine lv_iload_n hx hb d_T_outstandingNeeding_60 rfl (hl.at 2 rfl) ?_
        rw [← hQ]
        exact z_iret hx hb hr hlk hK hM hS h d_T_outstandingNeeding_61
      · replace h := h.2 c2
        refine lv_iload_n hx hb d_T_outstandingNeeding_12 rfl (hl.at 3 rfl) ?_
        refine lv_aload_n hx hb d_T_outstandingNeeding_13 rfl (hl.at 0 rfl) ?_
        refine z_getR hx hb hW in_7 hown hK hM t1 (by decide) rfl 2 (by decide) rfl (hW _ k_58) rfl d_T_outstandingNeeding_14 ?_
        obtain ⟨b3, hb4, h⟩ := h
        rw [hb4]
        obtain ⟨n6, t5, h⟩ := h
        refine z_alen hx hb hK hM t5 (by decide) 3 rfl d_T_outstandingNeeding_17 ?_
        refine lv_icmp_ge (tgt := 60) hx hb d_T_outstandingNeeding_18 rfl (fun c7 => ?_) (fun c7 => ?_)
        · replace h := h.1 c7
          refine lv_iload_n hx hb d_T_outstandingNeeding_60 rfl (hl.at 2 rfl) ?_
          rw [← hQ]
          exact z_iret hx hb hr hlk hK hM hS h d_T_outstandingNeeding_61
        · replace h := h.2 c7
          refine lv_aload_n hx hb d_T_outstandingNeeding_21 rfl (hl.at 0 rfl) ?_
          refine z_getR hx hb hW in_7 hown hK hM t1 (by decide) rfl 2 (by decide) rfl (hW _ k_58) rfl d_T_outstandingNeeding_22 ?_
          refine lv_iload_n hx hb d_T_outstandingNeeding_25 rfl (hl.at 3 rfl) ?_
          obtain ⟨b8, hb9, h⟩ := h
          rw [hb9]
          obtain ⟨n11, t10, h⟩ := h
          obtain ⟨i12, h⟩ := h
          refine z_aald hx hb hK hM t10 (by decide) 3 rfl i12 d_T_outstandingNeeding_26 ?_
          obtain ⟨r13, er14⟩ : ∃ z, z = zR M b8 x3.toNatClampNeg := ⟨_, rfl⟩
          replace h := h r13 er14
          rw [← er14]
          refine z_astore (x := r13) hx hb d_T_outstandingNeeding_27 hl (by decide) rfl (fun ls hl => ?_)
          have hl : zL ls 5 [(4, va_rf r13), (0, .ref a0), (1, .int x1), (2, .int x2), (3, .int x3)] := hl
          refine z_aload hx hb d_T_outstandingNeeding_29 (hl.at 0 rfl) ?_
          cases r13 with
          | none =>
            replace h := h.1 rfl
            refine lv_ifnullN (tgt := 54) hx hb d_T_outstandingNeeding_31 rfl ?_
            refine z_iinc (k := 4) (v := x3 + (1 : Int32)) hx hb d_T_outstandingNeeding_54 hl rfl rfl (by decide) rfl (fun ls hl => ?_)
            have hl : zL ls 5 [(3, .int (x3 + (1 : Int32))), (4, va_rf none), (0, .ref a0), (1, .int x1), (2, .int x2)] := hl
            refine lv_goto (tgt := 4) hx hb d_T_outstandingNeeding_57 rfl ?_
            exact ih M H locs ls a0 x1 x2 (x3 + (1 : Int32)) (hl.sub [2, 3, 4, 0] rfl) hM hS h
          | some b15 =>
            replace h := h.2 b15 rfl
            refine lv_ifnull hx hb d_T_outstandingNeeding_31 ?_
            refine lv_aload hx hb d_T_outstandingNeeding_34 (hl.at 0 rfl) ?_
            obtain ⟨t16, h⟩ := h
            refine z_getI hx hb hW in_0 hown hK hM t16 (by decide) rfl 9 (by decide) rfl (hW _ k_353) rfl d_T_outstandingNeeding_36 ?_
            refine lv_if_eq (tgt := 54) hx hb d_T_outstandingNeeding_39 rfl (fun c17 => ?_) (fun c17 => ?_)
            · replace h := h.1 c17
              refine z_iinc (k := 4) (v := x3 + (1 : Int32)) hx hb d_T_outstandingNeeding_54 hl rfl rfl (by decide) rfl (fun ls hl => ?_)
              have hl : zL ls 5 [(3, .int (x3 + (1 : Int32))), (4, .ref b15), (0, .ref a0), (1, .int x1), (2, .int x2)] := hl
              refine lv_goto (tgt := 4) hx hb d_T_outstandingNeeding_57 rfl ?_
              exact ih M H locs ls a0 x1 x2 (x3 + (1 : Int32)) (hl.sub [2, 3, 4, 0] rfl) hM hS h
            · replace h := h.2 c17
              refine lv_aload hx hb d_T_outstandingNeeding_42 (hl.at 0 rfl) ?_
              refine z_getI hx hb hW in_0 hown hK hM t16 (by decide) rfl 3 (by decide) rfl (hW _ k_342) rfl d_T_outstandingNeeding_44 ?_
              refine lv_iload_n hx hb d_T_outstandingNeeding_47 rfl (hl.at 2 rfl) ?_
              refine lv_icmp_lt (tgt := 54) hx hb d_T_outstandingNeeding_48 rfl (fun c18 => ?_) (fun c18 => ?_)
              · replace h := h.1 c18
                refine z_iinc (k := 4) (v := x3 + (1 : Int32)) hx hb d_T_outstandingNeeding_54 hl rfl rfl (by decide) rfl (fun ls hl => ?_)
                have hl : zL ls 5 [(3, .int (x3 + (1 : Int32))), (4, .ref b15), (0, .ref a0), (1, .int x1), (2, .int x2)] := hl
                refine lv_goto (tgt := 4) hx hb d_T_outstandingNeeding_57 rfl ?_
                exact ih M H locs ls a0 x1 x2 (x3 + (1 : Int32)) (hl.sub [2, 3, 4, 0] rfl) hM hS h
              · replace h := h.2 c18
                refine z_iinc (k := 3) (v := x2 + (1 : Int32)) hx hb d_T_outstandingNeeding_51 hl rfl rfl (by decide) rfl (fun ls hl => ?_)
                have hl : zL ls 5 [(2, .int (x2 + (1 : Int32))), (4, .ref b15), (0, .ref a0), (1, .int x1), (3, .int x3)] := hl
                refine z_iinc (k := 4) (v := x3 + (1 : Int32)) hx hb d_T_outstandingNeeding_54 hl rfl rfl (by decide) rfl (fun ls hl => ?_)
                have hl : zL ls 5 [(3, .int (x3 + (1 : Int32))), (2, .int (x2 + (1 : Int32))), (4, .ref b15), (0, .ref a0), (1, .int x1)] := hl
                refine lv_goto (tgt := 4) hx hb d_T_outstandingNeeding_57 rfl ?_
                exact ih M H locs ls a0 x1 (x2 + (1 : Int32)) (x3 + (1 : Int32)) (hl.sub [3, 4, 1, 0] rfl) hM hS h
  have b_start : ∀ (M : zM) (H : Heap) (locs : List Loc) (ls : Array Slot) (a0 : Nat) (x1 : Int32), zL ls 5 [(0, .ref a0), (1, .int x1)] → zW ca D zcl A M H → va_S A s.heap H locs → w_T_outstandingNeeding M a0 x1 post → W p l e rm_T_outstandingNeeding s m args below meth c H locs 0 0 Q (F0 m 0 ls []) := by
    intro M H locs ls a0 x1 hl hM hS h
    unfold w_T_outstandingNeeding at h
    refine lv_iconst (v := (0 : Int32)) hx hb d_T_outstandingNeeding_0 (by decide) ?_
    refine z_istore_n hx hb d_T_outstandingNeeding_1 rfl hl (by decide) rfl (fun ls hl => ?_)
    have hl : zL ls 5 [(2, .int (0 : Int32)), (0, .ref a0), (1, .int x1)] := hl
    refine lv_iconst (v := (0 : Int32)) hx hb d_T_outstandingNeeding_2 (by decide) ?_
    refine z_istore_n hx hb d_T_outstandingNeeding_3 rfl hl (by decide) rfl (fun ls hl => ?_)
    have hl : zL ls 5 [(3, .int (0 : Int32)), (2, .int (0 : Int32)), (0, .ref a0), (1, .int x1)] := hl
    obtain ⟨n20, h⟩ := h
    exact b_4 n20 M H locs ls a0 x1 (0 : Int32) (0 : Int32) (hl.sub [2, 3, 1, 0] rfl) hM hS h
  exact b_start M s.heap [] ls a0 x1 hl hM hS h
