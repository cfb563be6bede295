set_option maxHeartbeats 4000000 in
set_option maxRecDepth 100000 in
theorem c_Y_within (l : Launch) (ca : Nat → ClassId) (D : va_G) (M : zM) (sz : Nat) (x0 : Int32) (x1 : Int32) (post : Int32 → zM → Prop) : Met l y_Y_within (Cond.code y_Y_within prog_11_method_2_code 2 (some .boolean) :: zws) rm_Y_within (zPre ca D zcl (ztys ca) [.int x0, .int x1] M sz (w_Y_within M x0 x1 post)) (va_Qi post (zB ca D zcl (ztys ca) (zA M sz)) (zA M sz)) 0 0 (zA M sz) := by
  refine z_met (cc := prog_11_method_2_code) (maxL := 2) (ret := (some .boolean)) (plainFor_of_name (by decide)) rfl (by simp [Value.category]) (Nat.le_of_ble_eq_true rfl) ?_
  intro p e s m args below meth c ls A hx hb hr hlk hml hts hown hnm hK hN hl hA0 hM hS hA h
  rw [← hA0]
  have hW : ∀ w ∈ zws, w.before args s = true := fun w hw => hts w (List.mem_cons_of_mem _ hw)
  have hl : zL ls 2 [(0, .int x0), (1, .int x1)] := hl
  generalize hQ : MQ below (va_Qi post (zB ca D zcl (ztys ca) A) A) args s 0 0 A = Q
  have b_start : ∀ (M : zM) (H : Heap) (locs : List Loc) (ls : Array Slot) (x0 : Int32) (x1 : Int32), zL ls 2 [(0, .int x0), (1, .int x1)] → zW ca D zcl A M H → va_S A s.heap H locs → w_Y_within M x0 x1 post → W p l e rm_Y_within s m args below meth c H locs 0 0 Q (F0 m 0 ls []) := by
    intro M H locs ls x0 x1 hl hM hS h
    unfold w_Y_within at h
    refine lv_iload_n hx hb d_Y_within_0 rfl (hl.at 0 rfl) ?_
    refine lv_if_lt (tgt := 13) hx hb d_Y_within_1 rfl (fun c1 => ?_) (fun c1 => ?_)
    · replace h := h.1 c1
      refine lv_iconst (v := (0 : Int32)) hx hb d_Y_within_13 (by decide) ?_
      rw [← hQ]
      exact z_zret hx hb hr hlk rfl hK hM hS h d_Y_within_14
    · replace h := h.2 c1
      refine lv_iload_n hx hb d_Y_within_4 rfl (hl.at 0 rfl) ?_
      refine lv_iload_n hx hb d_Y_within_5 rfl (hl.at 1 rfl) ?_
      refine lv_icmp_gt (tgt := 13) hx hb d_Y_within_6 rfl (fun c2 => ?_) (fun c2 => ?_)
      · replace h := h.1 c2
        refine lv_iconst (v := (0 : Int32)) hx hb d_Y_within_13 (by decide) ?_
        rw [← hQ]
        exact z_zret hx hb hr hlk rfl hK hM hS h d_Y_within_14
      · replace h := h.2 c2
        refine lv_iconst (v := (1 : Int32)) hx hb d_Y_within_9 (by decide) ?_
        refine lv_goto (tgt := 14) hx hb d_Y_within_10 rfl ?_
        rw [← hQ]
        exact z_zret hx hb hr hlk rfl hK hM hS h d_Y_within_14
  exact b_start M s.heap [] ls x0 x1 hl hM hS h
set_option maxHeartbeats 4000000 in
set_option maxRecDepth 100000 in
theorem c_Y_need (l : Launch) (ca : Nat → ClassId) (D : va_G) (M : zM) (sz : Nat) (a0 : Nat) (x1 : Int32) (post : Int32 → zM → Prop) : Met l y_Y_need (Cond.code y_Y_need prog_11_method_4_code 4 (some .int) :: zws) rm_Y_need (zPre ca D zcl (ztys ca) [.ref a0, .int x1] M sz (w_Y_need M a0 x1 post)) (va_Qi post (zB ca D zcl (ztys ca) (zA M sz)) (zA M sz)) 0 0 (zA M sz) := by
  refine z_met (cc := prog_11_method_4_code) (maxL := 4) (ret := (some .int)) (plainFor_of_name (by decide)) rfl (by simp [Value.category]) (Nat.le_of_ble_eq_true rfl) ?_
  intro p e s m args below meth c ls A hx hb hr hlk hml hts hown hnm hK hN hl hA0 hM hS hA h
  rw [← hA0]
  have hW : ∀ w ∈ zws, w.before args s = true := fun w hw => hts w (List.mem_cons_of_mem _ hw)
  have hl : zL ls 4 [(0, .ref a0), (1, .int x1)] := hl
  generalize hQ : MQ below (va_Qi post (zB ca D zcl (ztys ca) A) A) args s 0 0 A = Q
  have b_6 : ∀ (n : Nat) (M : zM) (H : Heap) (locs : List Loc) (ls : Array Slot) (a0 : Nat) (x1 : Int32) (x2 : Int32) (x3 : Int32), zL ls 4 [(0, .ref a0), (1, .int x1), (2, .int x2), (3, .int x3)] → zW ca D zcl A M H → va_S A s.heap H locs → w_Y_need_6 post n M a0 x1 x2 x3 → W p l e rm_Y_need s m args below meth c H locs 0 0 Q (F0 m 6 ls []) := by
    intro n
    induction n with
    | zero =>
      intro M H locs ls a0 x1 x2 x3 hl hM hS h
      exact False.elim h
    | succ n ih =>
      intro M H locs ls a0 x1 x2 x3 hl hM hS h
      rw [w_Y_need_6] at h
      refine lv_iload_n hx hb d_Y_need_6 rfl (hl.at 3 rfl) ?_
      refine lv_iconst (v := (3 : Int32)) hx hb d_Y_need_7 (by decide) ?_
      refine lv_iload_n hx hb d_Y_need_8 rfl (hl.at 1 rfl) ?_
      refine lv_imul hx hb d_Y_need_9 ?_
      refine lv_iconst (v := (3 : Int32)) hx hb d_Y_need_10 (by decide) ?_
      refine lv_iadd hx hb d_Y_need_11 ?_
      refine lv_icmp_ge (tgt := 46) hx hb d_Y_need_12 rfl (fun c1 => ?_) (fun c1 => ?_)
      · replace h := h.1 c1
        refine lv_iload_n hx hb d_Y_need_46 rfl (hl.at 2 rfl) ?_
        rw [← hQ]
        exact z_iret hx hb hr hlk hK hM hS h d_Y_need_47
      · replace h := h.2 c1
        refine lv_aload_n hx hb d_Y_need_15 rfl (hl.at 0 rfl) ?_
        obtain ⟨t2, h⟩ := h
        refine z_getR hx hb hW in_9 hown hK hM t2 (by decide) rfl 20 (by decide) rfl (hW _ k_605) rfl d_Y_need_16 ?_
        refine lv_iload_n hx hb d_Y_need_19 rfl (hl.at 3 rfl) ?_
        obtain ⟨b3, hb4, h⟩ := h
        rw [hb4]
        obtain ⟨n6, t5, h⟩ := h
        obtain ⟨i7, h⟩ := h
        refine z_iald hx hb hK hM t5 0 rfl i7 d_Y_need_20 ?_
        refine lv_iconst (v := (1 : Int32)) hx hb d_Y_need_21 (by decide) ?_
        refine lv_iadd hx hb d_Y_need_22 ?_
        refine lv_iload_n hx hb d_Y_need_23 rfl (hl.at 2 rfl) ?_
        refine lv_icmp_le (tgt := 38) hx hb d_Y_need_24 rfl (fun c8 => ?_) (fun c8 => ?_)
        · replace h := h.1 c8
          refine lv_iload_n hx hb d_Y_need_38 rfl (hl.at 2 rfl) ?_
          refine z_istore_n hx hb d_Y_need_39 rfl hl (by decide) rfl (fun ls hl => ?_)
          have hl : zL ls 4 [(2, .int x2), (0, .ref a0), (1, .int x1), (3, .int x3)] := hl
          refine z_iinc (k := 3) (v := x3 + (1 : Int32)) hx hb d_Y_need_40 hl rfl rfl (by decide) rfl (fun ls hl => ?_)
          have hl : zL ls 4 [(3, .int (x3 + (1 : Int32))), (2, .int x2), (0, .ref a0), (1, .int x1)] := hl
          refine lv_goto (tgt := 6) hx hb d_Y_need_43 rfl ?_
          exact ih M H locs ls a0 x1 x2 (x3 + (1 : Int32)) (hl.sub [2, 3, 1, 0] rfl) hM hS h
        · replace h := h.2 c8
          refine lv_aload_n hx hb d_Y_need_27 rfl (hl.at 0 rfl) ?_
          refine z_getR hx hb hW in_9 hown hK hM t2 (by decide) rfl 20 (by decide) rfl (hW _ k_605) rfl d_Y_need_28 ?_
          refine lv_iload_n hx hb d_Y_need_31 rfl (hl.at 3 rfl) ?_
          obtain ⟨b9, hb10, h⟩ := h
          rw [hb10]
          obtain ⟨n12, t11, h⟩ := h
          obtain ⟨i13, h⟩ := h
          refine z_iald hx hb hK hM t11 0 rfl i13 d_Y_need_32 ?_
          refine lv_iconst (v := (1 : Int32)) hx hb d_Y_need_33 (by decide) ?_
          refine lv_iadd hx hb d_Y_need_34 ?_
          refine lv_goto (tgt := 39) hx hb d_Y_need_35 rfl ?_
          refine z_istore_n hx hb d_Y_need_39 rfl hl (by decide) rfl (fun ls hl => ?_)
          have hl : zL ls 4 [(2, .int ((zI M b9 x3.toNatClampNeg) + (1 : Int32))), (0, .ref a0), (1, .int x1), (3, .int x3)] := hl
          refine z_iinc (k := 3) (v := x3 + (1 : Int32)) hx hb d_Y_need_40 hl rfl rfl (by decide) rfl (fun ls hl => ?_)
          have hl : zL ls 4 [(3, .int (x3 + (1 : Int32))), (2, .int ((zI M b9 x3.toNatClampNeg) + (1 : Int32))), (0, .ref a0), (1, .int x1)] := hl
          refine lv_goto (tgt := 6) hx hb d_Y_need_43 rfl ?_
          exact ih M H locs ls a0 x1 ((zI M b9 x3.toNatClampNeg) + (1 : Int32)) (x3 + (1 : Int32)) (hl.sub [2, 3, 1, 0] rfl) hM hS h
  have b_start : ∀ (M : zM) (H : Heap) (locs : List Loc) (ls : Array Slot) (a0 : Nat) (x1 : Int32), zL ls 4 [(0, .ref a0), (1, .int x1)] → zW ca D zcl A M H → va_S A s.heap H locs → w_Y_need M a0 x1 post → W p l e rm_Y_need s m args below meth c H locs 0 0 Q (F0 m 0 ls []) := by
    intro M H locs ls a0 x1 hl hM hS h
    unfold w_Y_need at h
    refine lv_iconst (v := (0 : Int32)) hx hb d_Y_need_0 (by decide) ?_
    refine z_istore_n hx hb d_Y_need_1 rfl hl (by decide) rfl (fun ls hl => ?_)
    have hl : zL ls 4 [(2, .int (0 : Int32)), (0, .ref a0), (1, .int x1)] := hl
    refine lv_iconst (v := (3 : Int32)) hx hb d_Y_need_2 (by decide) ?_
    refine lv_iload_n hx hb d_Y_need_3 rfl (hl.at 2 rfl) ?_
    refine lv_imul hx hb d_Y_need_4 ?_
    refine z_istore_n hx hb d_Y_need_5 rfl hl (by decide) rfl (fun ls hl => ?_)
    have hl : zL ls 4 [(3, .int ((3 : Int32) * x1)), (2, .int (0 : Int32)), (0, .ref a0), (1, .int x1)] := hl
    obtain ⟨n14, h⟩ := h
    exact b_6 n14 M H locs ls a0 x1 (0 : Int32) ((3 : Int32) * x1) (hl.sub [2, 3, 1, 0] rfl) hM hS h
  exact b_start M s.heap [] ls a0 x1 hl hM hS h
set_option maxHeartbeats 4000000 in
set_option maxRecDepth 100000 in
theorem c_Y_after (l : Launch) (ca : Nat → ClassId) (D : va_G) (M : zM) (sz : Nat) (a0 : Nat) (x1 : Int32) (post : Int32 → zM → Prop) : Met l y_Y_after (Cond.code y_Y_after prog_11_method_3_code 5 (some .int) :: zws) rm_Y_after (zPre ca D zcl (ztys ca) [.ref a0, .int x1] M sz (w_Y_after M a0 x1 post)) (va_Qi post (zB ca D zcl (ztys ca) (zA M sz)) (zA M sz)) 0 0 (zA M sz) := by
  refine z_met (cc := prog_11_method_3_code) (maxL := 5) (ret := (some .int)) (plainFor_of_name (by decide)) rfl (by simp [Value.category]) (Nat.le_of_ble_eq_true rfl) ?_
  intro p e s m args below meth c ls A hx hb hr hlk hml hts hown hnm hK hN hl hA0 hM hS hA h
  rw [← hA0]
  have hW : ∀ w ∈ zws, w.before args s = true := fun w hw => hts w (List.mem_cons_of_mem _ hw)
  have hl : zL ls 5 [(0, .ref a0), (1, .int x1)] := hl
  generalize hQ : MQ below (va_Qi post (zB ca D zcl (ztys ca) A) A) args s 0 0 A = Q
  have b_4 : ∀ (n : Nat) (M : zM) (H : Heap) (locs : List Loc) (ls : Array Slot) (a0 : Nat) (x1 : Int32) (x2 : Int32) (x3 : Int32), zL ls 5 [(0, .ref a0), (1, .int x1), (2, .int x2), (3, .int x3)] → zW ca D zcl A M H → va_S A s.heap H locs → w_Y_after_4 post n M a0 x1 x2 x3 → W p l e rm_Y_after s m args below meth c H locs 0 0 Q (F0 m 4 ls []) := by
    intro n
    induction n with
    | zero =>
      intro M H locs ls a0 x1 x2 x3 hl hM hS h
      exact False.elim h
    | succ n ih =>
      intro M H locs ls a0 x1 x2 x3 hl hM hS h
      rw [w_Y_after_4] at h
      refine lv_iload_n hx hb d_Y_after_4 rfl (hl.at 3 rfl) ?_
      refine lv_iload_n hx hb d_Y_after_5 rfl (hl.at 1 rfl) ?_
      refine lv_icmp_ge (tgt := 71) hx hb d_Y_after_6 rfl (fun c1 => ?_) (fun c1 => ?_)
      · replace h := h.1 c1
        refine lv_iload_n hx hb d_Y_after_71 rfl (hl.at 2 rfl) ?_
        rw [← hQ]
        exact z_iret hx hb hr hlk hK hM hS h d_Y_after_72
      · replace h := h.2 c1
        refine lv_aload_n hx hb d_Y_after_9 rfl (hl.at 0 rfl) ?_
        obtain ⟨t2, h⟩ := h
        refine z_getR hx hb hW in_9 hown hK hM t2 (by decide) rfl 32 (by decide) rfl (hW _ k_617) rfl d_Y_after_10 ?_
        refine lv_iload_n hx hb d_Y_after_13 rfl (hl.at 3 rfl) ?_
        obtain ⟨b3, hb4, h⟩ := h
        rw [hb4]
        obtain ⟨n6, t5, h⟩ := h
        obtain ⟨i7, h⟩ := h
        refine z_iald hx hb hK hM t5 0 rfl i7 d_Y_after_14 ?_
        refine lv_iconst (v := (2 : Int32)) hx hb d_Y_after_15 (by decide) ?_
        refine lv_icmp_ne (tgt := 31) hx hb d_Y_after_16 rfl (fun c8 => ?_) (fun c8 => ?_)
        · replace h := h.2 c8
          refine lv_aload_n hx hb d_Y_after_31 rfl (hl.at 0 rfl) ?_
          refine z_getR hx hb hW in_9 hown hK hM t2 (by decide) rfl 32 (by decide) rfl (hW _ k_617) rfl d_Y_after_32 ?_
          refine lv_iload_n hx hb d_Y_after_35 rfl (hl.at 3 rfl) ?_
          obtain ⟨b9, hb10, h⟩ := h
          rw [hb10]
          obtain ⟨n12, t11, h⟩ := h
          obtain ⟨i13, h⟩ := h
          refine z_iald hx hb hK hM t11 0 rfl i13 d_Y_after_36 ?_
          refine lv_if_ne (tgt := 65) hx hb d_Y_after_37 rfl (fun c14 => ?_) (fun c14 => ?_)
          · replace h := h.2 c14
            refine z_iinc (k := 3) (v := x3 + (1 : Int32)) hx hb d_Y_after_65 hl rfl rfl (by decide) rfl (fun ls hl => ?_)
            have hl : zL ls 5 [(3, .int (x3 + (1 : Int32))), (0, .ref a0), (1, .int x1), (2, .int x2)] := hl
            refine lv_goto (tgt := 4) hx hb d_Y_after_68 rfl ?_
            exact ih M H locs ls a0 x1 x2 (x3 + (1 : Int32)) (hl.sub [1, 2, 3, 0] rfl) hM hS h
          · replace h := h.1 c14
            refine lv_aload_n hx hb d_Y_after_40 rfl (hl.at 0 rfl) ?_
            refine lv_aload_n hx hb d_Y_after_41 rfl (hl.at 0 rfl) ?_
            refine z_getR hx hb hW in_9 hown hK hM t2 (by decide) rfl 33 (by decide) rfl (hW _ k_618) rfl d_Y_after_42 ?_
            refine lv_iload_n hx hb d_Y_after_45 rfl (hl.at 3 rfl) ?_
            obtain ⟨b15, hb16, h⟩ := h
            rw [hb16]
            obtain ⟨n18, t17, h⟩ := h
            obtain ⟨i19, h⟩ := h
            refine z_iald hx hb hK hM t17 0 rfl i19 d_Y_after_46 ?_
            refine z_cti (mc := 0) (ms := 0) (va_runV (As := [.int (zI M b15 x3.toNatClampNeg)]) (rest := []) ⟨hx, hb, hml, hown, hW⟩ (c_Y_need l ca D M H.size a0 (zI M b15 x3.toNatClampNeg) _) (cw_Y_need hW k_738 ⟨by decide, by decide⟩) (zPre_V hK hN hM h t2 (by decide) rfl) rfl rfl hl.1.1 rfl (lv_room (Nat.le_of_ble_eq_true rfl)) d_Y_after_47 ⟨by decide, by decide⟩) hM hS hA (fun r20 M21 H locs h hM hS => ?_)
            refine z_istore hx hb d_Y_after_50 hl (by decide) rfl (fun ls hl => ?_)
            have hl : zL ls 5 [(4, .int r20), (0, .ref a0), (1, .int x1), (2, .int x2), (3, .int x3)] := hl
            refine lv_iload hx hb d_Y_after_52 (hl.at 0 rfl) ?_
            refine lv_iload_n hx hb d_Y_after_54 rfl (hl.at 3 rfl) ?_
            refine lv_icmp_le (tgt := 63) hx hb d_Y_after_55 rfl (fun c22 => ?_) (fun c22 => ?_)
            · replace h := h.1 c22
              refine lv_iload_n hx hb d_Y_after_63 rfl (hl.at 3 rfl) ?_
              refine z_istore_n hx hb d_Y_after_64 rfl hl (by decide) rfl (fun ls hl => ?_)
              have hl : zL ls 5 [(2, .int x2), (4, .int r20), (0, .ref a0), (1, .int x1), (3, .int x3)] := hl
              refine z_iinc (k := 4) (v := x3 + (1 : Int32)) hx hb d_Y_after_65 hl rfl rfl (by decide) rfl (fun ls hl => ?_)
              have hl : zL ls 5 [(3, .int (x3 + (1 : Int32))), (2, .int x2), (4, .int r20), (0, .ref a0), (1, .int x1)] := hl
              refine lv_goto (tgt := 4) hx hb d_Y_after_68 rfl ?_
              exact ih M21 H locs ls a0 x1 x2 (x3 + (1 : Int32)) (hl.sub [3, 4, 1, 0] rfl) hM hS h
            · replace h := h.2 c22
              refine lv_iload hx hb d_Y_after_58 (hl.at 0 rfl) ?_
              refine lv_goto (tgt := 64) hx hb d_Y_after_60 rfl ?_
              refine z_istore_n hx hb d_Y_after_64 rfl hl (by decide) rfl (fun ls hl => ?_)
              have hl : zL ls 5 [(2, .int r20), (4, .int r20), (0, .ref a0), (1, .int x1), (3, .int x3)] := hl
              refine z_iinc (k := 4) (v := x3 + (1 : Int32)) hx hb d_Y_after_65 hl rfl rfl (by decide) rfl (fun ls hl => ?_)
              have hl : zL ls 5 [(3, .int (x3 + (1 : Int32))), (2, .int r20), (4, .int r20), (0, .ref a0), (1, .int x1)] := hl
              refine lv_goto (tgt := 4) hx hb d_Y_after_68 rfl ?_
              exact ih M21 H locs ls a0 x1 r20 (x3 + (1 : Int32)) (hl.sub [3, 4, 1, 0] rfl) hM hS h
        · replace h := h.1 c8
          refine lv_iload_n hx hb d_Y_after_19 rfl (hl.at 2 rfl) ?_
          refine lv_aload_n hx hb d_Y_after_20 rfl (hl.at 0 rfl) ?_
          refine z_getR hx hb hW in_9 hown hK hM t2 (by decide) rfl 33 (by decide) rfl (hW _ k_618) rfl d_Y_after_21 ?_
          refine lv_iload_n hx hb d_Y_after_24 rfl (hl.at 3 rfl) ?_
          obtain ⟨b23, hb24, h⟩ := h
          rw [hb24]
          obtain ⟨n26, t25, h⟩ := h
          obtain ⟨i27, h⟩ := h
          refine z_iald hx hb hK hM t25 0 rfl i27 d_Y_after_25 ?_
          refine lv_iadd hx hb d_Y_after_26 ?_
          refine z_istore_n hx hb d_Y_after_27 rfl hl (by decide) rfl (fun ls hl => ?_)
          have hl : zL ls 5 [(2, .int (x2 + (zI M b23 x3.toNatClampNeg))), (0, .ref a0), (1, .int x1), (3, .int x3)] := hl
          refine lv_goto (tgt := 65) hx hb d_Y_after_28 rfl ?_
          refine z_iinc (k := 3) (v := x3 + (1 : Int32)) hx hb d_Y_after_65 hl rfl rfl (by decide) rfl (fun ls hl => ?_)
          have hl : zL ls 5 [(3, .int (x3 + (1 : Int32))), (2, .int (x2 + (zI M b23 x3.toNatClampNeg))), (0, .ref a0), (1, .int x1)] := hl
          refine lv_goto (tgt := 4) hx hb d_Y_after_68 rfl ?_
          exact ih M H locs ls a0 x1 (x2 + (zI M b23 x3.toNatClampNeg)) (x3 + (1 : Int32)) (hl.sub [2, 3, 1, 0] rfl) hM hS h
  have b_start : ∀ (M : zM) (H : Heap) (locs : List Loc) (ls : Array Slot) (a0 : Nat) (x1 : Int32), zL ls 5 [(0, .ref a0), (1, .int x1)] → zW ca D zcl A M H → va_S A s.heap H locs → w_Y_after M a0 x1 post → W p l e rm_Y_after s m args below meth c H locs 0 0 Q (F0 m 0 ls []) := by
    intro M H locs ls a0 x1 hl hM hS h
    unfold w_Y_after at h
    refine lv_iconst (v := (0 : Int32)) hx hb d_Y_after_0 (by decide) ?_
    refine z_istore_n hx hb d_Y_after_1 rfl hl (by decide) rfl (fun ls hl => ?_)
    have hl : zL ls 5 [(2, .int (0 : Int32)), (0, .ref a0), (1, .int x1)] := hl
    refine lv_iconst (v := (0 : Int32)) hx hb d_Y_after_2 (by decide) ?_
    refine z_istore_n hx hb d_Y_after_3 rfl hl (by decide) rfl (fun ls hl => ?_)
    have hl : zL ls 5 [(3, .int (0 : Int32)), (2, .int (0 : Int32)), (0, .ref a0), (1, .int x1)] := hl
    obtain ⟨n28, h⟩ := h
    exact b_4 n28 M H locs ls a0 x1 (0 : Int32) (0 : Int32) (hl.sub [2, 3, 1, 0] rfl) hM hS h
  exact b_start M s.heap [] ls a0 x1 hl hM hS h
set_option maxHeartbeats 4000000 in
set_option maxRecDepth 100000 in
theorem c_Y_outstanding (l : Launch) (ca : Nat → ClassId) (D : va_G) (M : zM) (sz : Nat) (a0 : Nat) (x1 : Int32) (post : Int32 → zM → Prop) : Met l y_Y_outstanding (Cond.code y_Y_outstanding prog_11_method_5_code 4 (some .boolean) :: zws) rm_Y_outstanding (zPre ca D zcl (ztys ca) [.ref a0, .int x1] M sz (w_Y_outstanding M a0 x1 post)) (va_Qi post (zB ca D zcl (ztys ca) (zA M sz)) (zA M sz)) 0 0 (zA M sz) := by
  refine z_met (cc := prog_11_method_5_code) (maxL := 4) (ret := (some .boolean)) (plainFor_of_name (by decide)) rfl (by simp [Value.category]) (Nat.le_of_ble_eq_true rfl) ?_
  intro p e s m args below meth c ls A hx hb hr hlk hml hts hown hnm hK hN hl hA0 hM hS hA h
  rw [← hA0]
  have hW : ∀ w ∈ zws, w.before args s = true := fun w hw => hts w (List.mem_cons_of_mem _ hw)
  have hl : zL ls 4 [(0, .ref a0), (1, .int x1)] := hl
  generalize hQ : MQ below (va_Qi post (zB ca D zcl (ztys ca) A) A) args s 0 0 A = Q
  have b_25 : ∀ (n : Nat) (M : zM) (H : Heap) (locs : List Loc) (ls : Array Slot) (a0 : Nat) (x1 : Int32) (x2 : Int32) (x3 : Int32), zL ls 4 [(0, .ref a0), (1, .int x1), (2, .int x2), (3, .int x3)] → zW ca D zcl A M H → va_S A s.heap H locs → w_Y_outstanding_25 post n M a0 x1 x2 x3 → W p l e rm_Y_outstanding s m args below meth c H locs 0 0 Q (F0 m 25 ls []) := by
    intro n
    induction n with
    | zero =>
      intro M H locs ls a0 x1 x2 x3 hl hM hS h
      exact False.elim h
    | succ n ih =>
      intro M H locs ls a0 x1 x2 x3 hl hM hS h
      rw [w_Y_outstanding_25] at h
      refine lv_iload_n hx hb d_Y_outstanding_25 rfl (hl.at 3 rfl) ?_
      refine lv_aload_n hx hb d_Y_outstanding_26 rfl (hl.at 0 rfl) ?_
      obtain ⟨t8, h⟩ := h
      refine z_getI hx hb hW in_9 hown hK hM t8 (by decide) rfl 35 (by decide) rfl (hW _ k_620) rfl d_Y_outstanding_27 ?_
      refine lv_icmp_ge (tgt := 69) hx hb d_Y_outstanding_30 rfl (fun c9 => ?_) (fun c9 => ?_)
      · replace h := h.1 c9
        refine lv_iload_n hx hb d_Y_outstanding_69 rfl (hl.at 2 rfl) ?_
        obtain ⟨z10, h⟩ := h
        rw [← hQ]
        exact z_zret hx hb hr hlk (zb_n z10) hK hM hS h d_Y_outstanding_70
      · replace h := h.2 c9
        refine lv_iload_n hx hb d_Y_outstanding_33 rfl (hl.at 2 rfl) ?_
        refine lv_if_eq (tgt := 69) hx hb d_Y_outstanding_34 rfl (fun c11 => ?_) (fun c11 => ?_)
        · replace h := h.1 c11
          refine lv_iload_n hx hb d_Y_outstanding_69 rfl (hl.at 2 rfl) ?_
          obtain ⟨z12, h⟩ := h
          rw [← hQ]
          exact z_zret hx hb hr hlk (zb_n z12) hK hM hS h d_Y_outstanding_70
        · replace h := h.2 c11
          refine lv_aload_n hx hb d_Y_outstanding_37 rfl (hl.at 0 rfl) ?_
          refine z_getR hx hb hW in_9 hown hK hM t8 (by decide) rfl 32 (by decide) rfl (hW _ k_617) rfl d_Y_outstanding_38 ?_
          refine lv_iload_n hx hb d_Y_outstanding_41 rfl (hl.at 3 rfl) ?_
          obtain ⟨b13, hb14, h⟩ := h
          rw [hb14]
          obtain ⟨n16, t15, h⟩ := h
          obtain ⟨i17, h⟩ := h
          refine z_iald hx hb hK hM t15 0 rfl i17 d_Y_outstanding_42 ?_
          refine lv_iconst (v := (2 : Int32)) hx hb d_Y_outstanding_43 (by decide) ?_
          refine lv_icmp_eq (tgt := 57) hx hb d_Y_outstanding_44 rfl (fun c18 => ?_) (fun c18 => ?_)
          · replace h := h.1 c18
            refine lv_iconst (v := (1 : Int32)) hx hb d_Y_outstanding_57 (by decide) ?_
            refine lv_goto (tgt := 62) hx hb d_Y_outstanding_58 rfl ?_
            refine z_istore_n hx hb d_Y_outstanding_62 rfl hl (by decide) rfl (fun ls hl => ?_)
            have hl : zL ls 4 [(2, .int (1 : Int32)), (0, .ref a0), (1, .int x1), (3, .int x3)] := hl
            refine z_iinc (k := 3) (v := x3 + (1 : Int32)) hx hb d_Y_outstanding_63 hl rfl rfl (by decide) rfl (fun ls hl => ?_)
            have hl : zL ls 4 [(3, .int (x3 + (1 : Int32))), (2, .int (1 : Int32)), (0, .ref a0), (1, .int x1)] := hl
            refine lv_goto (tgt := 25) hx hb d_Y_outstanding_66 rfl ?_
            exact ih M H locs ls a0 x1 (1 : Int32) (x3 + (1 : Int32)) (hl.sub [2, 3, 1, 0] rfl) hM hS h
          · replace h := h.2 c18
            refine lv_aload_n hx hb d_Y_outstanding_47 rfl (hl.at 0 rfl) ?_
            refine z_getR hx hb hW in_9 hown hK hM t8 (by decide) rfl 33 (by decide) rfl (hW _ k_618) rfl d_Y_outstanding_48 ?_
            refine lv_iload_n hx hb d_Y_outstanding_51 rfl (hl.at 3 rfl) ?_
            obtain ⟨b19, hb20, h⟩ := h
            rw [hb20]
            obtain ⟨n22, t21, h⟩ := h
            obtain ⟨i23, h⟩ := h
            refine z_iald hx hb hK hM t21 0 rfl i23 d_Y_outstanding_52 ?_
            refine lv_iload_n hx hb d_Y_outstanding_53 rfl (hl.at 1 rfl) ?_
            refine lv_icmp_eq (tgt := 61) hx hb d_Y_outstanding_54 rfl (fun c24 => ?_) (fun c24 => ?_)
            · replace h := h.1 c24
              refine lv_iconst (v := (0 : Int32)) hx hb d_Y_outstanding_61 (by decide) ?_
              refine z_istore_n hx hb d_Y_outstanding_62 rfl hl (by decide) rfl (fun ls hl => ?_)
              have hl : zL ls 4 [(2, .int (0 : Int32)), (0, .ref a0), (1, .int x1), (3, .int x3)] := hl
              refine z_iinc (k := 3) (v := x3 + (1 : Int32)) hx hb d_Y_outstanding_63 hl rfl rfl (by decide) rfl (fun ls hl => ?_)
              have hl : zL ls 4 [(3, .int (x3 + (1 : Int32))), (2, .int (0 : Int32)), (0, .ref a0), (1, .int x1)] := hl
              refine lv_goto (tgt := 25) hx hb d_Y_outstanding_66 rfl ?_
              exact ih M H locs ls a0 x1 (0 : Int32) (x3 + (1 : Int32)) (hl.sub [2, 3, 1, 0] rfl) hM hS h
            · replace h := h.2 c24
              refine lv_iconst (v := (1 : Int32)) hx hb d_Y_outstanding_57 (by decide) ?_
              refine lv_goto (tgt := 62) hx hb d_Y_outstanding_58 rfl ?_
              refine z_istore_n hx hb d_Y_outstanding_62 rfl hl (by decide) rfl (fun ls hl => ?_)
              have hl : zL ls 4 [(2, .int (1 : Int32)), (0, .ref a0), (1, .int x1), (3, .int x3)] := hl
              refine z_iinc (k := 3) (v := x3 + (1 : Int32)) hx hb d_Y_outstanding_63 hl rfl rfl (by decide) rfl (fun ls hl => ?_)
              have hl : zL ls 4 [(3, .int (x3 + (1 : Int32))), (2, .int (1 : Int32)), (0, .ref a0), (1, .int x1)] := hl
              refine lv_goto (tgt := 25) hx hb d_Y_outstanding_66 rfl ?_
              exact ih M H locs ls a0 x1 (1 : Int32) (x3 + (1 : Int32)) (hl.sub [2, 3, 1, 0] rfl) hM hS h
  have b_start : ∀ (M : zM) (H : Heap) (locs : List Loc) (ls : Array Slot) (a0 : Nat) (x1 : Int32), zL ls 4 [(0, .ref a0), (1, .int x1)] → zW ca D zcl A M H → va_S A s.heap H locs → w_Y_outstanding M a0 x1 post → W p l e rm_Y_outstanding s m args below meth c H locs 0 0 Q (F0 m 0 ls []) := by
    intro M H locs ls a0 x1 hl hM hS h
    unfold w_Y_outstanding at h
    refine lv_aload_n hx hb d_Y_outstanding_0 rfl (hl.at 0 rfl) ?_
    obtain ⟨t1, h⟩ := h
    refine z_getR hx hb hW in_9 hown hK hM t1 (by decide) rfl 16 (by decide) rfl (hW _ k_601) rfl d_Y_outstanding_1 ?_
    refine lv_iload_n hx hb d_Y_outstanding_4 rfl (hl.at 1 rfl) ?_
    obtain ⟨b2, hb3, h⟩ := h
    rw [hb3]
    obtain ⟨n5, t4, h⟩ := h
    obtain ⟨i6, h⟩ := h
    refine z_iald hx hb hK hM t4 0 rfl i6 d_Y_outstanding_5 ?_
    refine lv_if_le (tgt := 21) hx hb d_Y_outstanding_6 rfl (fun c7 => ?_) (fun c7 => ?_)
    · replace h := h.1 c7
      refine lv_iconst (v := (0 : Int32)) hx hb d_Y_outstanding_21 (by decide) ?_
      refine z_istore_n hx hb d_Y_outstanding_22 rfl hl (by decide) rfl (fun ls hl => ?_)
      have hl : zL ls 4 [(2, .int (0 : Int32)), (0, .ref a0), (1, .int x1)] := hl
      refine lv_iconst (v := (0 : Int32)) hx hb d_Y_outstanding_23 (by decide) ?_
      refine z_istore_n hx hb d_Y_outstanding_24 rfl hl (by decide) rfl (fun ls hl => ?_)
      have hl : zL ls 4 [(3, .int (0 : Int32)), (2, .int (0 : Int32)), (0, .ref a0), (1, .int x1)] := hl
      obtain ⟨n25, h⟩ := h
      exact b_25 n25 M H locs ls a0 x1 (0 : Int32) (0 : Int32) (hl.sub [2, 3, 1, 0] rfl) hM hS h
    · replace h := h.2 c7
      refine lv_aload_n hx hb d_Y_outstanding_9 rfl (hl.at 0 rfl) ?_
      refine lv_iload_n hx hb d_Y_outstanding_10 rfl (hl.at 1 rfl) ?_
      refine z_cti (mc := 0) (ms := 0) (va_runV (As := [.int x1]) (rest := []) ⟨hx, hb, hml, hown, hW⟩ (c_Y_need l ca D M H.size a0 x1 _) (cw_Y_need hW k_738 ⟨by decide, by decide⟩) (zPre_V hK hN hM h t1 (by decide) rfl) rfl rfl hl.1.1 rfl (lv_room (Nat.le_of_ble_eq_true rfl)) d_Y_outstanding_11 ⟨by decide, by decide⟩) hM hS hA (fun r26 M27 H locs h hM hS => ?_)
      refine lv_if_le (tgt := 21) hx hb d_Y_outstanding_14 rfl (fun c28 => ?_) (fun c28 => ?_)
      · replace h := h.1 c28
        refine lv_iconst (v := (0 : Int32)) hx hb d_Y_outstanding_21 (by decide) ?_
        refine z_istore_n hx hb d_Y_outstanding_22 rfl hl (by decide) rfl (fun ls hl => ?_)
        have hl : zL ls 4 [(2, .int (0 : Int32)), (0, .ref a0), (1, .int x1)] := hl
        refine lv_iconst (v := (0 : Int32)) hx hb d_Y_outstanding_23 (by decide) ?_
        refine z_istore_n hx hb d_Y_outstanding_24 rfl hl (by decide) rfl (fun ls hl => ?_)
        have hl : zL ls 4 [(3, .int (0 : Int32)), (2, .int (0 : Int32)), (0, .ref a0), (1, .int x1)] := hl
        refine W.widen (k := 0) (n := 0) (by decide) (by decide) ?_
        obtain ⟨n29, h⟩ := h
        exact b_25 n29 M27 H locs ls a0 x1 (0 : Int32) (0 : Int32) (hl.sub [2, 3, 1, 0] rfl) hM hS h
      · replace h := h.2 c28
        refine lv_iconst (v := (1 : Int32)) hx hb d_Y_outstanding_17 (by decide) ?_
        refine lv_goto (tgt := 22) hx hb d_Y_outstanding_18 rfl ?_
        refine z_istore_n hx hb d_Y_outstanding_22 rfl hl (by decide) rfl (fun ls hl => ?_)
        have hl : zL ls 4 [(2, .int (1 : Int32)), (0, .ref a0), (1, .int x1)] := hl
        refine lv_iconst (v := (0 : Int32)) hx hb d_Y_outstanding_23 (by decide) ?_
        refine z_istore_n hx hb d_Y_outstanding_24 rfl hl (by decide) rfl (fun ls hl => ?_)
        have hl : zL ls 4 [(3, .int (0 : Int32)), (2, .int (1 : Int32)), (0, .ref a0), (1, .int x1)] := hl
        refine W.widen (k := 0) (n := 0) (by decide) (by decide) ?_
        obtain ⟨n30, h⟩ := h
        exact b_25 n30 M27 H locs ls a0 x1 (1 : Int32) (0 : Int32) (hl.sub [2, 3, 1, 0] rfl) hM hS h
  exact b_start M s.heap [] ls a0 x1 hl hM hS h
set_option maxHeartbeats 4000000 in
set_option maxRecDepth 100000 in
theorem c_Y_risky (l : Launch) (ca : Nat → ClassId) (D : va_G) (M : zM) (sz : Nat) (a0 : Nat) (x1 : Int32) (x2 : Int32) (post : Int32 → zM → Prop) : Met l y_Y_risky (Cond.code y_Y_risky prog_11_method_6_code 5 (some .int) :: zws) rm_Y_risky (zPre ca D zcl (ztys ca) [.ref a0, .int x1, .int x2] M sz (w_Y_risky M a0 x1 x2 post)) (va_Qi post (zB ca D zcl (ztys ca) (zA M sz)) (zA M sz)) 0 0 (zA M sz) := by
  refine z_met (cc := prog_11_method_6_code) (maxL := 5) (ret := (some .int)) (plainFor_of_name (by decide)) rfl (by simp [Value.category]) (Nat.le_of_ble_eq_true rfl) ?_
  intro p e s m args below meth c ls A hx hb hr hlk hml hts hown hnm hK hN hl hA0 hM hS hA h
  rw [← hA0]
  have hW : ∀ w ∈ zws, w.before args s = true := fun w hw => hts w (List.mem_cons_of_mem _ hw)
  have hl : zL ls 5 [(0, .ref a0), (1, .int x1), (2, .int x2)] := hl
  generalize hQ : MQ below (va_Qi post (zB ca D zcl (ztys ca) A) A) args s 0 0 A = Q
  have b_5 : ∀ (n : Nat) (M : zM) (H : Heap) (locs : List Loc) (ls : Array Slot) (a0 : Nat) (x1 : Int32) (x2 : Int32) (x3 : Int32) (x4 : Int32), zL ls 5 [(0, .ref a0), (1, .int x1), (2, .int x2), (3, .int x3), (4, .int x4)] → zW ca D zcl A M H → va_S A s.heap H locs → w_Y_risky_5 post n M a0 x1 x2 x3 x4 → W p l e rm_Y_risky s m args below meth c H locs 0 0 Q (F0 m 5 ls []) := by
    intro n
    induction n with
    | zero =>
      intro M H locs ls a0 x1 x2 x3 x4 hl hM hS h
      exact False.elim h
    | succ n ih =>
      intro M H locs ls a0 x1 x2 x3 x4 hl hM hS h
      rw [w_Y_risky_5] at h
      refine lv_iload hx hb d_Y_risky_5 (hl.at 4 rfl) ?_
      refine lv_aload_n hx hb d_Y_risky_7 rfl (hl.at 0 rfl) ?_
      obtain ⟨t1, h⟩ := h
      refine z_getI hx hb hW in_9 hown hK hM t1 (by decide) rfl 6 (by decide) rfl (hW _ k_591) rfl d_Y_risky_8 ?_
      refine lv_icmp_ge (tgt := 53) hx hb d_Y_risky_11 rfl (fun c2 => ?_) (fun c2 => ?_)
      · replace h := h.1 c2
        refine lv_iload_n hx hb d_Y_risky_53 rfl (hl.at 3 rfl) ?_
        rw [← hQ]
        exact z_iret hx hb hr hlk hK hM hS h d_Y_risky_54
      · replace h := h.2 c2
        refine lv_iload hx hb d_Y_risky_14 (hl.at 4 rfl) ?_
        refine lv_iload_n hx hb d_Y_risky_16 rfl (hl.at 2 rfl) ?_
        refine lv_icmp_eq (tgt := 45) hx hb d_Y_risky_17 rfl (fun c3 => ?_) (fun c3 => ?_)
        · replace h := h.1 c3
          refine lv_iload_n hx hb d_Y_risky_45 rfl (hl.at 3 rfl) ?_
          refine z_istore_n hx hb d_Y_risky_46 rfl hl (by decide) rfl (fun ls hl => ?_)
          have hl : zL ls 5 [(3, .int x3), (0, .ref a0), (1, .int x1), (2, .int x2), (4, .int x4)] := hl
          refine z_iinc (k := 4) (v := x4 + (1 : Int32)) hx hb d_Y_risky_47 hl rfl rfl (by decide) rfl (fun ls hl => ?_)
          have hl : zL ls 5 [(4, .int (x4 + (1 : Int32))), (3, .int x3), (0, .ref a0), (1, .int x1), (2, .int x2)] := hl
          refine lv_goto (tgt := 5) hx hb d_Y_risky_50 rfl ?_
          exact ih M H locs ls a0 x1 x2 x3 (x4 + (1 : Int32)) (hl.sub [2, 3, 4, 1, 0] rfl) hM hS h
        · replace h := h.2 c3
          refine lv_aload_n hx hb d_Y_risky_20 rfl (hl.at 0 rfl) ?_
          refine lv_iload hx hb d_Y_risky_21 (hl.at 4 rfl) ?_
          refine z_cti (mc := 0) (ms := 0) (va_runV (As := [.int x4]) (rest := []) ⟨hx, hb, hml, hown, hW⟩ (c_Y_need l ca D M H.size a0 x4 _) (cw_Y_need hW k_738 ⟨by decide, by decide⟩) (zPre_V hK hN hM h t1 (by decide) rfl) rfl rfl hl.1.1 rfl (lv_room (Nat.le_of_ble_eq_true rfl)) d_Y_risky_23 ⟨by decide, by decide⟩) hM hS hA (fun r4 M5 H locs h hM hS => ?_)
          refine lv_iload_n hx hb d_Y_risky_26 rfl (hl.at 1 rfl) ?_
          refine lv_icmp_le (tgt := 45) hx hb d_Y_risky_27 rfl (fun c6 => ?_) (fun c6 => ?_)
          · replace h := h.1 c6
            refine lv_iload_n hx hb d_Y_risky_45 rfl (hl.at 3 rfl) ?_
            refine z_istore_n hx hb d_Y_risky_46 rfl hl (by decide) rfl (fun ls hl => ?_)
            have hl : zL ls 5 [(3, .int x3), (0, .ref a0), (1, .int x1), (2, .int x2), (4, .int x4)] := hl
            refine z_iinc (k := 4) (v := x4 + (1 : Int32)) hx hb d_Y_risky_47 hl rfl rfl (by decide) rfl (fun ls hl => ?_)
            have hl : zL ls 5 [(4, .int (x4 + (1 : Int32))), (3, .int x3), (0, .ref a0), (1, .int x1), (2, .int x2)] := hl
            refine lv_goto (tgt := 5) hx hb d_Y_risky_50 rfl ?_
            exact ih M5 H locs ls a0 x1 x2 x3 (x4 + (1 : Int32)) (hl.sub [2, 3, 4, 1, 0] rfl) hM hS h
          · replace h := h.2 c6
            refine lv_aload_n hx hb d_Y_risky_30 rfl (hl.at 0 rfl) ?_
            refine lv_iload hx hb d_Y_risky_31 (hl.at 4 rfl) ?_
            obtain ⟨t7, h⟩ := h
            refine z_cti (mc := 0) (ms := 0) (va_runV (As := [.int x4]) (rest := []) ⟨hx, hb, hml, hown, hW⟩ (c_Y_outstanding l ca D M5 H.size a0 x4 _) (cw_Y_outstanding hW k_746 ⟨by decide, by decide⟩) (zPre_V hK hN hM h t7 (by decide) rfl) rfl rfl hl.1.1 rfl (lv_room (Nat.le_of_ble_eq_true rfl)) d_Y_risky_33 ⟨by decide, by decide⟩) hM hS hA (fun r8 M9 H locs h hM hS => ?_)
            refine lv_if_eq (tgt := 45) hx hb d_Y_risky_36 rfl (fun c10 => ?_) (fun c10 => ?_)
            · replace h := h.1 c10
              refine lv_iload_n hx hb d_Y_risky_45 rfl (hl.at 3 rfl) ?_
              refine z_istore_n hx hb d_Y_risky_46 rfl hl (by decide) rfl (fun ls hl => ?_)
              have hl : zL ls 5 [(3, .int x3), (0, .ref a0), (1, .int x1), (2, .int x2), (4, .int x4)] := hl
              refine z_iinc (k := 4) (v := x4 + (1 : Int32)) hx hb d_Y_risky_47 hl rfl rfl (by decide) rfl (fun ls hl => ?_)
              have hl : zL ls 5 [(4, .int (x4 + (1 : Int32))), (3, .int x3), (0, .ref a0), (1, .int x1), (2, .int x2)] := hl
              refine lv_goto (tgt := 5) hx hb d_Y_risky_50 rfl ?_
              exact ih M9 H locs ls a0 x1 x2 x3 (x4 + (1 : Int32)) (hl.sub [2, 3, 4, 1, 0] rfl) hM hS h
            · replace h := h.2 c10
              refine lv_iload_n hx hb d_Y_risky_39 rfl (hl.at 3 rfl) ?_
              refine lv_iconst (v := (1 : Int32)) hx hb d_Y_risky_40 (by decide) ?_
              refine lv_iadd hx hb d_Y_risky_41 ?_
              refine lv_goto (tgt := 46) hx hb d_Y_risky_42 rfl ?_
              refine z_istore_n hx hb d_Y_risky_46 rfl hl (by decide) rfl (fun ls hl => ?_)
              have hl : zL ls 5 [(3, .int (x3 + (1 : Int32))), (0, .ref a0), (1, .int x1), (2, .int x2), (4, .int x4)] := hl
              refine z_iinc (k := 4) (v := x4 + (1 : Int32)) hx hb d_Y_risky_47 hl rfl rfl (by decide) rfl (fun ls hl => ?_)
              have hl : zL ls 5 [(4, .int (x4 + (1 : Int32))), (3, .int (x3 + (1 : Int32))), (0, .ref a0), (1, .int x1), (2, .int x2)] := hl
              refine lv_goto (tgt := 5) hx hb d_Y_risky_50 rfl ?_
              exact ih M9 H locs ls a0 x1 x2 (x3 + (1 : Int32)) (x4 + (1 : Int32)) (hl.sub [2, 3, 4, 1, 0] rfl) hM hS h
  have b_start : ∀ (M : zM) (H : Heap) (locs : List Loc) (ls : Array Slot) (a0 : Nat) (x1 : Int32) (x2 : Int32), zL ls 5 [(0, .ref a0), (1, .int x1), (2, .int x2)] → zW ca D zcl A M H → va_S A s.heap H locs → w_Y_risky M a0 x1 x2 post → W p l e rm_Y_risky s m args below meth c H locs 0 0 Q (F0 m 0 ls []) := by
    intro M H locs ls a0 x1 x2 hl hM hS h
    unfold w_Y_risky at h
    refine lv_iconst (v := (0 : Int32)) hx hb d_Y_risky_0 (by decide) ?_
    refine z_istore_n hx hb d_Y_risky_1 rfl hl (by decide) rfl (fun ls hl => ?_)
    have hl : zL ls 5 [(3, .int (0 : Int32)), (0, .ref a0), (1, .int x1), (2, .int x2)] := hl
    refine lv_iconst (v := (0 : Int32)) hx hb d_Y_risky_2 (by decide) ?_
    refine z_istore hx hb d_Y_risky_3 hl (by decide) rfl (fun ls hl => ?_)
    have hl : zL ls 5 [(4, .int (0 : Int32)), (3, .int (0 : Int32)), (0, .ref a0), (1, .int x1), (2, .int x2)] := hl
    obtain ⟨n11, h⟩ := h
    exact b_5 n11 M H locs ls a0 x1 x2 (0 : Int32) (0 : Int32) (hl.sub [2, 3, 4, 1, 0] rfl) hM hS h
  exact b_start M s.heap [] ls a0 x1 x2 hl hM hS h
set_option maxHeartbeats 4000000 in
set_option maxRecDepth 100000 in
theorem c_Y_uses (l : Launch) (ca : Nat → ClassId) (D : va_G) (M : zM) (sz : Nat) (a0 : Nat) (x1 : Int32) (x2 : Int32) (post : Int32 → zM → Prop) : Met l y_Y_uses (Cond.code y_Y_uses prog_11_method_7_code 7 (some .int) :: zws) rm_Y_uses (zPre ca D zcl (ztys ca) [.ref a0, .int x1, .int x2] M sz (w_Y_uses M a0 x1 x2 post)) (va_Qi post (zB ca D zcl (ztys ca) (zA M sz)) (zA M sz)) 0 0 (zA M sz) := by
  refine z_met (cc := prog_11_method_7_code) (maxL := 7) (ret := (some .int)) (plainFor_of_name (by decide)) rfl (by simp [Value.category]) (Nat.le_of_ble_eq_true rfl) ?_
  intro p e s m args below meth c ls A hx hb hr hlk hml hts hown hnm hK hN hl hA0 hM hS hA h
  rw [← hA0]
  have hW : ∀ w ∈ zws, w.before args s = true := fun w hw => hts w (List.mem_cons_of_mem _ hw)
  have hl : zL ls 7 [(0, .ref a0), (1, .int x1), (2, .int x2)] := hl
  generalize hQ : MQ below (va_Qi post (zB ca D zcl (ztys ca) A) A) args s 0 0 A = Q
  have b_42 : ∀ (K : zM → Nat → Int32 → Int32 → Int32 → Int32 → Int32 → Int32 → Prop), (∀ (M : zM) (H : Heap) (locs : List Loc) (ls : Array Slot) (a0 : Nat) (x1 : Int32) (x2 : Int32) (x3 : Int32) (x4 : Int32) (x5 : Int32) (x6 : Int32), zL ls 7 [(0, .ref a0), (1, .int x1), (2, .int x2), (3, .int x3), (4, .int x4), (5, .int x5), (6, .int x6)] → zW ca D zcl A M H → va_S A s.heap H locs → K M a0 x1 x2 x3 x4 x5 x6 → W p l e rm_Y_uses s m args below meth c H locs 0 0 Q (F0 m 83 ls [])) → ∀ (n : Nat) (M : zM) (H : Heap) (locs : List Loc) (ls : Array Slot) (a0 : Nat) (x1 : Int32) (x2 : Int32) (x3 : Int32) (x4 : Int32) (x5 : Int32) (x6 : Int32), zL ls 7 [(0, .ref a0), (1, .int x1), (2, .int x2), (3, .int x3), (4, .int x4), (5, .int x5), (6, .int x6)] → zW ca D zcl A M H → va_S A s.heap H locs → w_Y_uses_42 post K n M a0 x1 x2 x3 x4 x5 x6 → W p l e rm_Y_uses s m args below meth c H locs 0 0 Q (F0 m 42 ls []) := by
    intro K hX n
    induction n with
    | zero =>
      intro M H locs ls a0 x1 x2 x3 x4 x5 x6 hl hM hS h
      exact False.elim h
    | succ n ih =>
      intro M H locs ls a0 x1 x2 x3 x4 x5 x6 hl hM hS h
      rw [w_Y_uses_42] at h
      refine lv_iload hx hb d_Y_uses_42 (hl.at 6 rfl) ?_
      refine lv_iconst (v := (3 : Int32)) hx hb d_Y_uses_44 (by decide) ?_
      refine lv_iload hx hb d_Y_uses_45 (hl.at 4 rfl) ?_
      refine lv_imul hx hb d_Y_uses_47 ?_
      refine lv_iconst (v := (3 : Int32)) hx hb d_Y_uses_48 (by decide) ?_
      refine lv_iadd hx hb d_Y_uses_49 ?_
      refine lv_icmp_ge (tgt := 83) hx hb d_Y_uses_50 rfl (fun c4 => ?_) (fun c4 => ?_)
      · replace h := h.1 c4
        exact hX M H locs ls a0 x1 x2 x3 x4 x5 x6 (hl.sub [0, 1, 2, 3, 4, 5, 6] rfl) hM hS h
      · replace h := h.2 c4
        refine lv_iload hx hb d_Y_uses_53 (hl.at 5 rfl) ?_
        refine lv_if_eq (tgt := 83) hx hb d_Y_uses_55 rfl (fun c5 => ?_) (fun c5 => ?_)
        · replace h := h.1 c5
          exact hX M H locs ls a0 x1 x2 x3 x4 x5 x6 (hl.sub [0, 1, 2, 3, 4, 5, 6] rfl) hM hS h
        · replace h := h.2 c5
          refine lv_aload_n hx hb d_Y_uses_58 rfl (hl.at 0 rfl) ?_
          obtain ⟨t6, h⟩ := h
          refine z_getR hx hb hW in_9 hown hK hM t6 (by decide) rfl 20 (by decide) rfl (hW _ k_605) rfl d_Y_uses_59 ?_
          refine lv_iload hx hb d_Y_uses_62 (hl.at 6 rfl) ?_
          obtain ⟨b7, hb8, h⟩ := h
          rw [hb8]
          obtain ⟨n10, t9, h⟩ := h
          obtain ⟨i11, h⟩ := h
          refine z_iald hx hb hK hM t9 0 rfl i11 d_Y_uses_64 ?_
          refine lv_iload_n hx hb d_Y_uses_65 rfl (hl.at 1 rfl) ?_
          refine lv_icmp_ne (tgt := 75) hx hb d_Y_uses_66 rfl (fun c12 => ?_) (fun c12 => ?_)
          · replace h := h.2 c12
            refine lv_iload_n hx hb d_Y_uses_75 rfl (hl.at 3 rfl) ?_
            refine z_istore_n hx hb d_Y_uses_76 rfl hl (by decide) rfl (fun ls hl => ?_)
            have hl : zL ls 7 [(3, .int x3), (0, .ref a0), (1, .int x1), (2, .int x2), (4, .int x4), (5, .int x5), (6, .int x6)] := hl
            refine z_iinc (k := 6) (v := x6 + (1 : Int32)) hx hb d_Y_uses_77 hl rfl rfl (by decide) rfl (fun ls hl => ?_)
            have hl : zL ls 7 [(6, .int (x6 + (1 : Int32))), (3, .int x3), (0, .ref a0), (1, .int x1), (2, .int x2), (4, .int x4), (5, .int x5)] := hl
            refine lv_goto (tgt := 42) hx hb d_Y_uses_80 rfl ?_
            exact ih M H locs ls a0 x1 x2 x3 x4 x5 (x6 + (1 : Int32)) (hl.sub [2, 3, 4, 1, 5, 6, 0] rfl) hM hS h
          · replace h := h.1 c12
            refine lv_iload_n hx hb d_Y_uses_69 rfl (hl.at 3 rfl) ?_
            refine lv_iconst (v := (1 : Int32)) hx hb d_Y_uses_70 (by decide) ?_
            refine lv_iadd hx hb d_Y_uses_71 ?_
            refine lv_goto (tgt := 76) hx hb d_Y_uses_72 rfl ?_
            refine z_istore_n hx hb d_Y_uses_76 rfl hl (by decide) rfl (fun ls hl => ?_)
            have hl : zL ls 7 [(3, .int (x3 + (1 : Int32))), (0, .ref a0), (1, .int x1), (2, .int x2), (4, .int x4), (5, .int x5), (6, .int x6)] := hl
            refine z_iinc (k := 6) (v := x6 + (1 : Int32)) hx hb d_Y_uses_77 hl rfl rfl (by decide) rfl (fun ls hl => ?_)
            have hl : zL ls 7 [(6, .int (x6 + (1 : Int32))), (3, .int (x3 + (1 : Int32))), (0, .ref a0), (1, .int x1), (2, .int x2), (4, .int x4), (5, .int x5)] := hl
            refine lv_goto (tgt := 42) hx hb d_Y_uses_80 rfl ?_
            exact ih M H locs ls a0 x1 x2 (x3 + (1 : Int32)) x4 x5 (x6 + (1 : Int32)) (hl.sub [2, 3, 4, 1, 5, 6, 0] rfl) hM hS h
  have b_5 : ∀ (n : Nat) (M : zM) (H : Heap) (locs : List Loc) (ls : Array Slot) (a0 : Nat) (x1 : Int32) (x2 : Int32) (x3 : Int32) (x4 : Int32), zL ls 7 [(0, .ref a0), (1, .int x1), (2, .int x2), (3, .int x3), (4, .int x4)] → zW ca D zcl A M H → va_S A s.heap H locs → w_Y_uses_5 post n M a0 x1 x2 x3 x4 → W p l e rm_Y_uses s m args below meth c H locs 0 0 Q (F0 m 5 ls []) := by
    intro n
    induction n with
    | zero =>
      intro M H locs ls a0 x1 x2 x3 x4 hl hM hS h
      exact False.elim h
    | succ n ih =>
      intro M H locs ls a0 x1 x2 x3 x4 hl hM hS h
      rw [w_Y_uses_5] at h
      refine lv_iload hx hb d_Y_uses_5 (hl.at 4 rfl) ?_
      refine lv_aload_n hx hb d_Y_uses_7 rfl (hl.at 0 rfl) ?_
      obtain ⟨t1, h⟩ := h
      refine z_getI hx hb hW in_9 hown hK hM t1 (by decide) rfl 6 (by decide) rfl (hW _ k_591) rfl d_Y_uses_8 ?_
      refine lv_icmp_ge (tgt := 89) hx hb d_Y_uses_11 rfl (fun c2 => ?_) (fun c2 => ?_)
      · replace h := h.1 c2
        refine lv_iload_n hx hb d_Y_uses_89 rfl (hl.at 3 rfl) ?_
        rw [← hQ]
        exact z_iret hx hb hr hlk hK hM hS h d_Y_uses_90
      · replace h := h.2 c2
        refine lv_iload hx hb d_Y_uses_14 (hl.at 4 rfl) ?_
        refine lv_iload_n hx hb d_Y_uses_16 rfl (hl.at 2 rfl) ?_
        refine lv_icmp_eq (tgt := 29) hx hb d_Y_uses_17 rfl (fun c3 => ?_) (fun c3 => ?_)
        · replace h := h.1 c3
          refine lv_iconst (v := (1 : Int32)) hx hb d_Y_uses_29 (by decide) ?_
          refine lv_goto (tgt := 34) hx hb d_Y_uses_30 rfl ?_
          refine z_istore hx hb d_Y_uses_34 hl (by decide) rfl (fun ls hl => ?_)
          have hl : zL ls 7 [(5, .int (1 : Int32)), (0, .ref a0), (1, .int x1), (2, .int x2), (3, .int x3), (4, .int x4)] := hl
          refine lv_iconst (v := (3 : Int32)) hx hb d_Y_uses_36 (by decide) ?_
          refine lv_iload hx hb d_Y_uses_37 (hl.at 5 rfl) ?_
          refine lv_imul hx hb d_Y_uses_39 ?_
          refine z_istore hx hb d_Y_uses_40 hl (by decide) rfl (fun ls hl => ?_)
          have hl : zL ls 7 [(6, .int ((3 : Int32) * x4)), (5, .int (1 : Int32)), (0, .ref a0), (1, .int x1), (2, .int x2), (3, .int x3), (4, .int x4)] := hl
          obtain ⟨n13, h⟩ := h
          refine b_42 _ (fun M14 H locs ls y15 y16 y17 y18 y19 y20 y21 hl hM hS h => ?_) n13 M H locs ls a0 x1 x2 x3 x4 (1 : Int32) ((3 : Int32) * x4) (hl.sub [2, 3, 4, 5, 6, 1, 0] rfl) hM hS h
          refine z_iinc (k := 4) (v := y19 + (1 : Int32)) hx hb d_Y_uses_83 hl rfl rfl (by decide) rfl (fun ls hl => ?_)
          have hl : zL ls 7 [(4, .int (y19 + (1 : Int32))), (0, .ref y15), (1, .int y16), (2, .int y17), (3, .int y18), (5, .int y20), (6, .int y21)] := hl
          refine lv_goto (tgt := 5) hx hb d_Y_uses_86 rfl ?_
          exact ih M14 H locs ls y15 y16 y17 y18 (y19 + (1 : Int32)) (hl.sub [1, 2, 3, 4, 0] rfl) hM hS h
        · replace h := h.2 c3
          refine lv_aload_n hx hb d_Y_uses_20 rfl (hl.at 0 rfl) ?_
          refine lv_iload hx hb d_Y_uses_21 (hl.at 4 rfl) ?_
          refine z_cti (mc := 0) (ms := 0) (va_runV (As := [.int x4]) (rest := []) ⟨hx, hb, hml, hown, hW⟩ (c_Y_outstanding l ca D M H.size a0 x4 _) (cw_Y_outstanding hW k_746 ⟨by decide, by decide⟩) (zPre_V hK hN hM h t1 (by decide) rfl) rfl rfl hl.1.1 rfl (lv_room (Nat.le_of_ble_eq_true rfl)) d_Y_uses_23 ⟨by decide, by decide⟩) hM hS hA (fun r22 M23 H locs h hM hS => ?_)
          refine lv_if_eq (tgt := 33) hx hb d_Y_uses_26 rfl (fun c24 => ?_) (fun c24 => ?_)
          · replace h := h.1 c24
            refine lv_iconst (v := (0 : Int32)) hx hb d_Y_uses_33 (by decide) ?_
            refine z_istore hx hb d_Y_uses_34 hl (by decide) rfl (fun ls hl => ?_)
            have hl : zL ls 7 [(5, .int (0 : Int32)), (0, .ref a0), (1, .int x1), (2, .int x2), (3, .int x3), (4, .int x4)] := hl
            refine lv_iconst (v := (3 : Int32)) hx hb d_Y_uses_36 (by decide) ?_
            refine lv_iload hx hb d_Y_uses_37 (hl.at 5 rfl) ?_
            refine lv_imul hx hb d_Y_uses_39 ?_
            refine z_istore hx hb d_Y_uses_40 hl (by decide) rfl (fun ls hl => ?_)
            have hl : zL ls 7 [(6, .int ((3 : Int32) * x4)), (5, .int (0 : Int32)), (0, .ref a0), (1, .int x1), (2, .int x2), (3, .int x3), (4, .int x4)] := hl
            obtain ⟨n25, h⟩ := h
            refine b_42 _ (fun M26 H locs ls y27 y28 y29 y30 y31 y32 y33 hl hM hS h => ?_) n25 M23 H locs ls a0 x1 x2 x3 x4 (0 : Int32) ((3 : Int32) * x4) (hl.sub [2, 3, 4, 5, 6, 1, 0] rfl) hM hS h
            refine z_iinc (k := 4) (v := y31 + (1 : Int32)) hx hb d_Y_uses_83 hl rfl rfl (by decide) rfl (fun ls hl => ?_)
            have hl : zL ls 7 [(4, .int (y31 + (1 : Int32))), (0, .ref y27), (1, .int y28), (2, .int y29), (3, .int y30), (5, .int y32), (6, .int y33)] := hl
            refine lv_goto (tgt := 5) hx hb d_Y_uses_86 rfl ?_
            exact ih M26 H locs ls y27 y28 y29 y30 (y31 + (1 : Int32)) (hl.sub [1, 2, 3, 4, 0] rfl) hM hS h
          · replace h := h.2 c24
            refine lv_iconst (v := (1 : Int32)) hx hb d_Y_uses_29 (by decide) ?_
            refine lv_goto (tgt := 34) hx hb d_Y_uses_30 rfl ?_
            refine z_istore hx hb d_Y_uses_34 hl (by decide) rfl (fun ls hl => ?_)
            have hl : zL ls 7 [(5, .int (1 : Int32)), (0, .ref a0), (1, .int x1), (2, .int x2), (3, .int x3), (4, .int x4)] := hl
            refine lv_iconst (v := (3 : Int32)) hx hb d_Y_uses_36 (by decide) ?_
            refine lv_iload hx hb d_Y_uses_37 (hl.at 5 rfl) ?_
            refine lv_imul hx hb d_Y_uses_39 ?_
            refine z_istore hx hb d_Y_uses_40 hl (by decide) rfl (fun ls hl => ?_)
            have hl : zL ls 7 [(6, .int ((3 : Int32) * x4)), (5, .int (1 : Int32)), (0, .ref a0), (1, .int x1), (2, .int x2), (3, .int x3), (4, .int x4)] := hl
            obtain ⟨n34, h⟩ := h
            refine b_42 _ (fun M35 H locs ls y36 y37 y38 y39 y40 y41 y42 hl hM hS h => ?_) n34 M23 H locs ls a0 x1 x2 x3 x4 (1 : Int32) ((3 : Int32) * x4) (hl.sub [2, 3, 4, 5, 6, 1, 0] rfl) hM hS h
            refine z_iinc (k := 4) (v := y40 + (1 : Int32)) hx hb d_Y_uses_83 hl rfl rfl (by decide) rfl (fun ls hl => ?_)
            have hl : zL ls 7 [(4, .int (y40 + (1 : Int32))), (0, .ref y36), (1, .int y37), (2, .int y38), (3, .int y39), (5, .int y41), (6, .int y42)] := hl
            refine lv_goto (tgt := 5) hx hb d_Y_uses_86 rfl ?_
            exact ih M35 H locs ls y36 y37 y38 y39 (y40 + (1 : Int32)) (hl.sub [1, 2, 3, 4, 0] rfl) hM hS h
  have b_start : ∀ (M : zM) (H : Heap) (locs : List Loc) (ls : Array Slot) (a0 : Nat) (x1 : Int32) (x2 : Int32), zL ls 7 [(0, .ref a0), (1, .int x1), (2, .int x2)] → zW ca D zcl A M H → va_S A s.heap H locs → w_Y_uses M a0 x1 x2 post → W p l e rm_Y_uses s m args below meth c H locs 0 0 Q (F0 m 0 ls []) := by
    intro M H locs ls a0 x1 x2 hl hM hS h
    unfold w_Y_uses at h
    refine lv_iconst (v := (0 : Int32)) hx hb d_Y_uses_0 (by decide) ?_
    refine z_istore_n hx hb d_Y_uses_1 rfl hl (by decide) rfl (fun ls hl => ?_)
    have hl : zL ls 7 [(3, .int (0 : Int32)), (0, .ref a0), (1, .int x1), (2, .int x2)] := hl
    refine lv_iconst (v := (0 : Int32)) hx hb d_Y_uses_2 (by decide) ?_
    refine z_istore hx hb d_Y_uses_3 hl (by decide) rfl (fun ls hl => ?_)
    have hl : zL ls 7 [(4, .int (0 : Int32)), (3, .int (0 : Int32)), (0, .ref a0), (1, .int x1), (2, .int x2)] := hl
    obtain ⟨n43, h⟩ := h
    exact b_5 n43 M H locs ls a0 x1 x2 (0 : Int32) (0 : Int32) (hl.sub [2, 3, 4, 1, 0] rfl) hM hS h
  exact b_start M s.heap [] ls a0 x1 x2 hl hM hS h
set_option maxHeartbeats 4000000 in
set_option maxRecDepth 100000 in
theorem c_Y_oldest (l : Launch) (ca : Nat → ClassId) (D : va_G) (M : zM) (sz : Nat) (a0 : Nat) (post : Int32 → zM → Prop) : Met l y_Y_oldest (Cond.code y_Y_oldest prog_11_method_8_code 1 (some .int) :: zws) rm_Y_oldest (zPre ca D zcl (ztys ca) [.ref a0] M sz (w_Y_oldest M a0 post)) (va_Qi post (zB ca D zcl (ztys ca) (zA M sz)) (zA M sz)) 0 0 (zA M sz) := by
  refine z_met (cc := prog_11_method_8_code) (maxL := 1) (ret := (some .int)) (plainFor_of_name (by decide)) rfl (by simp [Value.category]) (Nat.le_of_ble_eq_true rfl) ?_
  intro p e s m args below meth c ls A hx hb hr hlk hml hts hown hnm hK hN hl hA0 hM hS hA h
  rw [← hA0]
  have hW : ∀ w ∈ zws, w.before args s = true := fun w hw => hts w (List.mem_cons_of_mem _ hw)
  have hl : zL ls 1 [(0, .ref a0)] := hl
  generalize hQ : MQ below (va_Qi post (zB ca D zcl (ztys ca) A) A) args s 0 0 A = Q
  have b_start : ∀ (M : zM) (H : Heap) (locs : List Loc) (ls : Array Slot) (a0 : Nat), zL ls 1 [(0, .ref a0)] → zW ca D zcl A M H → va_S A s.heap H locs → w_Y_oldest M a0 post → W p l e rm_Y_oldest s m args below meth c H locs 0 0 Q (F0 m 0 ls []) := by
    intro M H locs ls a0 hl hM hS h
    unfold w_Y_oldest at h
    refine lv_aload_n hx hb d_Y_oldest_0 rfl (hl.at 0 rfl) ?_
    obtain ⟨t1, h⟩ := h
    refine z_getI hx hb hW in_9 hown hK hM t1 (by decide) rfl 28 (by decide) rfl (hW _ k_613) rfl d_Y_oldest_1 ?_
    refine lv_iconst (v := (5 : Int32)) hx hb d_Y_oldest_4 (by decide) ?_
    refine lv_icmp_le (tgt := 17) hx hb d_Y_oldest_5 rfl (fun c2 => ?_) (fun c2 => ?_)
    · replace h := h.1 c2
      refine lv_iconst (v := (0 : Int32)) hx hb d_Y_oldest_17 (by decide) ?_
      rw [← hQ]
      exact z_iret hx hb hr hlk hK hM hS h d_Y_oldest_18
    · replace h := h.2 c2
      refine lv_aload_n hx hb d_Y_oldest_8 rfl (hl.at 0 rfl) ?_
      refine z_getI hx hb hW in_9 hown hK hM t1 (by decide) rfl 28 (by decide) rfl (hW _ k_613) rfl d_Y_oldest_9 ?_
      refine lv_iconst (v := (5 : Int32)) hx hb d_Y_oldest_12 (by decide) ?_
      refine lv_isub hx hb d_Y_oldest_13 ?_
      refine lv_goto (tgt := 18) hx hb d_Y_oldest_14 rfl ?_
      rw [← hQ]
      exact z_iret hx hb hr hlk hK hM hS h d_Y_oldest_18
  exact b_start M s.heap [] ls a0 hl hM hS h
set_option maxHeartbeats 4000000 in
set_option maxRecDepth 100000 in
theorem c_Y_tell (l : Launch) (ca : Nat → ClassId) (D : va_G) (M : zM) (sz : Nat) (a0 : Nat) (x1 : Int32) (x2 : Int32) (post : zM → Prop) : Met l y_Y_tell (Cond.code y_Y_tell prog_11_method_9_code 3 none :: zws) rm_Y_tell (zPre ca D zcl (ztys ca) [.ref a0, .int x1, .int x2] M sz (w_Y_tell M a0 x1 x2 post)) (va_Qv post (zB ca D zcl (ztys ca) (zA M sz)) (zA M sz)) 0 0 (zA M sz) := by
  refine z_met (cc := prog_11_method_9_code) (maxL := 3) (ret := none) (plainFor_of_name (by decide)) rfl (by simp [Value.category]) (Nat.le_of_ble_eq_true rfl) ?_
  intro p e s m args below meth c ls A hx hb hr hlk hml hts hown hnm hK hN hl hA0 hM hS hA h
  rw [← hA0]
  have hW : ∀ w ∈ zws, w.before args s = true := fun w hw => hts w (List.mem_cons_of_mem _ hw)
  have hl : zL ls 3 [(0, .ref a0), (1, .int x1), (2, .int x2)] := hl
  generalize hQ : MQ below (va_Qv post (zB ca D zcl (ztys ca) A) A) args s 0 0 A = Q
  have b_start : ∀ (M : zM) (H : Heap) (locs : List Loc) (ls : Array Slot) (a0 : Nat) (x1 : Int32) (x2 : Int32), zL ls 3 [(0, .ref a0), (1, .int x1), (2, .int x2)] → zW ca D zcl A M H → va_S A s.heap H locs → w_Y_tell M a0 x1 x2 post → W p l e rm_Y_tell s m args below meth c H locs 0 0 Q (F0 m 0 ls []) := by
    intro M H locs ls a0 x1 x2 hl hM hS h
    unfold w_Y_tell at h
    refine lv_aload_n hx hb d_Y_tell_0 rfl (hl.at 0 rfl) ?_
    obtain ⟨t1, h⟩ := h
    refine z_getR hx hb hW in_9 hown hK hM t1 (by decide) rfl 32 (by decide) rfl (hW _ k_617) rfl d_Y_tell_1 ?_
    refine lv_aload_n hx hb d_Y_tell_4 rfl (hl.at 0 rfl) ?_
    refine z_getI hx hb hW in_9 hown hK hM t1 (by decide) rfl 34 (by decide) rfl (hW _ k_619) rfl d_Y_tell_5 ?_
    refine lv_iload_n hx hb d_Y_tell_8 rfl (hl.at 1 rfl) ?_
    obtain ⟨b2, hb3, h⟩ := h
    rw [hb3]
    obtain ⟨n5, t4, h⟩ := h
    obtain ⟨i6, h⟩ := h
    refine z_iast hx hb hK hM hS t4 0 rfl i6 d_Y_tell_9 (fun H locs hM hS => ?_)
    obtain ⟨M7, e8⟩ : ∃ z, z = zwI M b2 (zI M a0 34).toNatClampNeg x1 := ⟨_, rfl⟩
    replace h := h M7 e8
    rw [← e8] at hM
    refine lv_aload_n hx hb d_Y_tell_10 rfl (hl.at 0 rfl) ?_
    have t9 : zT M7 a0 = some (9, 40) := by rw [e8]; exact t1
    refine z_getR hx hb hW in_9 hown hK hM t9 (by decide) rfl 33 (by decide) rfl (hW _ k_618) rfl d_Y_tell_11 ?_
    refine lv_aload_n hx hb d_Y_tell_14 rfl (hl.at 0 rfl) ?_
    refine z_getI hx hb hW in_9 hown hK hM t9 (by decide) rfl 34 (by decide) rfl (hW _ k_619) rfl d_Y_tell_15 ?_
    refine lv_iload_n hx hb d_Y_tell_18 rfl (hl.at 2 rfl) ?_
    obtain ⟨b10, hb11, h⟩ := h
    rw [hb11]
    obtain ⟨n13, t12, h⟩ := h
    obtain ⟨i14, h⟩ := h
    refine z_iast hx hb hK hM hS t12 0 rfl i14 d_Y_tell_19 (fun H locs hM hS => ?_)
    obtain ⟨M15, e16⟩ : ∃ z, z = zwI M7 b10 (zI M7 a0 34).toNatClampNeg x2 := ⟨_, rfl⟩
    replace h := h M15 e16
    rw [← e16] at hM
    refine lv_aload_n hx hb d_Y_tell_20 rfl (hl.at 0 rfl) ?_
    refine lv_dup hx hb d_Y_tell_21 rfl ?_
    have t17 : zT M15 a0 = some (9, 40) := by rw [e16]; exact t9
    refine z_getI hx hb hW in_9 hown hK hM t17 (by decide) rfl 34 (by decide) rfl (hW _ k_619) rfl d_Y_tell_22 ?_
    refine lv_iconst (v := (1 : Int32)) hx hb d_Y_tell_25 (by decide) ?_
    refine lv_iadd hx hb d_Y_tell_26 ?_
    refine z_putI hx hb hW in_9 ty_9 tyok_9 nm_9 hown hK hM hS t17 (by decide) rfl 34 (by decide) rfl (hW _ k_619) rfl (Or.inl rfl) rfl rfl d_Y_tell_27 (fun H locs hM hS => ?_)
    obtain ⟨M18, e19⟩ : ∃ z, z = zwI M15 a0 34 ((zI M15 a0 34) + (1 : Int32)) := ⟨_, rfl⟩
    replace h := h M18 e19
    rw [← e19] at hM
    rw [← hQ]
    exact z_vret hx hb hr hlk hK hM hS h d_Y_tell_30
  exact b_start M s.heap [] ls a0 x1 x2 hl hM hS h
set_option maxHeartbeats 4000000 in
set_option maxRecDepth 100000 in
theorem c_Y_write (l : Launch) (ca : Nat → ClassId) (D : va_G) (M : zM) (sz : Nat) (a0 : Nat) (x1 : Int32) (x2 : Int32) (x3 : Int32) (post : Int32 → zM → Prop) : Met l y_Y_write (Cond.code y_Y_write prog_11_method_10_code 4 (some .int) :: zws) rm_Y_write (zPre ca D zcl (ztys ca) [.ref a0, .int x1, .int x2, .int x3] M sz (w_Y_write M a0 x1 x2 x3 post)) (va_Qi post (zB ca D zcl (ztys ca) (zA M sz)) (zA M sz)) 0 0 (zA M sz) := by
  refine z_met (cc := prog_11_method_10_code) (maxL := 4) (ret := (some .int)) (plainFor_of_name (by decide)) rfl (by simp [Value.category]) (Nat.le_of_ble_eq_true rfl) ?_
  intro p e s m args below meth c ls A hx hb hr hlk hml hts hown hnm hK hN hl hA0 hM hS hA h
  rw [← hA0]
  have hW : ∀ w ∈ zws, w.before args s = true := fun w hw => hts w (List.mem_cons_of_mem _ hw)
  have hl : zL ls 4 [(0, .ref a0), (1, .int x1), (2, .int x2), (3, .int x3)] := hl
  generalize hQ : MQ below (va_Qi post (zB ca D zcl (ztys ca) A) A) args s 0 0 A = Q
  have b_start : ∀ (M : zM) (H : Heap) (locs : List Loc) (ls : Array Slot) (a0 : Nat) (x1 : Int32) (x2 : Int32) (x3 : Int32), zL ls 4 [(0, .ref a0), (1, .int x1), (2, .int x2), (3, .int x3)] → zW ca D zcl A M H → va_S A s.heap H locs → w_Y_write M a0 x1 x2 x3 post → W p l e rm_Y_write s m args below meth c H locs 0 0 Q (F0 m 0 ls []) := by
    intro M H locs ls a0 x1 x2 x3 hl hM hS h
    unfold w_Y_write at h
    refine lv_aload_n hx hb d_Y_write_0 rfl (hl.at 0 rfl) ?_
    refine lv_dup hx hb d_Y_write_1 rfl ?_
    obtain ⟨t1, h⟩ := h
    refine z_getI hx hb hW in_9 hown hK hM t1 (by decide) rfl 4 (by decide) rfl (hW _ k_589) rfl d_Y_write_2 ?_
    refine lv_iconst (v := (1 : Int32)) hx hb d_Y_write_5 (by decide) ?_
    refine lv_iadd hx hb d_Y_write_6 ?_
    refine z_putI hx hb hW in_9 ty_9 tyok_9 nm_9 hown hK hM hS t1 (by decide) rfl 4 (by decide) rfl (hW _ k_589) rfl (Or.inl rfl) rfl rfl d_Y_write_7 (fun H locs hM hS => ?_)
    obtain ⟨M2, e3⟩ : ∃ z, z = zwI M a0 4 ((zI M a0 4) + (1 : Int32)) := ⟨_, rfl⟩
    replace h := h M2 e3
    rw [← e3] at hM
    refine lv_aload_n hx hb d_Y_write_10 rfl (hl.at 0 rfl) ?_
    have t4 : zT M2 a0 = some (9, 40) := by rw [e3]; exact t1
    refine z_getR hx hb hW in_9 hown hK hM t4 (by decide) rfl 0 (by decide) rfl (hW _ k_585) rfl d_Y_write_11 ?_
    refine lv_iload_n hx hb d_Y_write_14 rfl (hl.at 1 rfl) ?_
    refine lv_iconst (v := (1 : Int32)) hx hb d_Y_write_15 (by decide) ?_
    obtain ⟨b5, hb6, h⟩ := h
    rw [hb6]
    obtain ⟨n8, t7, h⟩ := h
    obtain ⟨i9, h⟩ := h
    refine z_zast hx hb hK hM hS t7 1 rfl i9 d_Y_write_16 (fun H locs hM hS => ?_)
    obtain ⟨M10, e11⟩ : ∃ z, z = zwI M2 b5 x1.toNatClampNeg (vp_nar .boolean (1 : Int32)) := ⟨_, rfl⟩
    replace h := h M10 e11
    rw [← e11] at hM
    refine lv_aload_n hx hb d_Y_write_17 rfl (hl.at 0 rfl) ?_
    have t12 : zT M10 a0 = some (9, 40) := by rw [e11]; exact t4
    refine z_getR hx hb hW in_9 hown hK hM t12 (by decide) rfl 1 (by decide) rfl (hW _ k_586) rfl d_Y_write_18 ?_
    refine lv_iload_n hx hb d_Y_write_21 rfl (hl.at 1 rfl) ?_
    refine lv_iload_n hx hb d_Y_write_22 rfl (hl.at 2 rfl) ?_
    obtain ⟨b13, hb14, h⟩ := h
    rw [hb14]
    obtain ⟨n16, t15, h⟩ := h
    obtain ⟨i17, h⟩ := h
    refine z_iast hx hb hK hM hS t15 0 rfl i17 d_Y_write_23 (fun H locs hM hS => ?_)
    obtain ⟨M18, e19⟩ : ∃ z, z = zwI M10 b13 x1.toNatClampNeg x2 := ⟨_, rfl⟩
    replace h := h M18 e19
    rw [← e19] at hM
    refine lv_aload_n hx hb d_Y_write_24 rfl (hl.at 0 rfl) ?_
    have t20 : zT M18 a0 = some (9, 40) := by rw [e19]; exact t12
    refine z_getR hx hb hW in_9 hown hK hM t20 (by decide) rfl 2 (by decide) rfl (hW _ k_587) rfl d_Y_write_25 ?_
    refine lv_iload_n hx hb d_Y_write_28 rfl (hl.at 1 rfl) ?_
    refine lv_iload_n hx hb d_Y_write_29 rfl (hl.at 3 rfl) ?_
    obtain ⟨b21, hb22, h⟩ := h
    rw [hb22]
    obtain ⟨n24, t23, h⟩ := h
    obtain ⟨i25, h⟩ := h
    refine z_iast hx hb hK hM hS t23 0 rfl i25 d_Y_write_30 (fun H locs hM hS => ?_)
    obtain ⟨M26, e27⟩ : ∃ z, z = zwI M18 b21 x1.toNatClampNeg x3 := ⟨_, rfl⟩
    replace h := h M26 e27
    rw [← e27] at hM
    refine lv_aload_n hx hb d_Y_write_31 rfl (hl.at 0 rfl) ?_
    have t28 : zT M26 a0 = some (9, 40) := by rw [e27]; exact t20
    refine z_getR hx hb hW in_9 hown hK hM t28 (by decide) rfl 3 (by decide) rfl (hW _ k_588) rfl d_Y_write_32 ?_
    refine lv_iload_n hx hb d_Y_write_35 rfl (hl.at 1 rfl) ?_
    refine lv_aload_n hx hb d_Y_write_36 rfl (hl.at 0 rfl) ?_
    refine z_getI hx hb hW in_9 hown hK hM t28 (by decide) rfl 4 (by decide) rfl (hW _ k_589) rfl d_Y_write_37 ?_
    obtain ⟨b29, hb30, h⟩ := h
    rw [hb30]
    obtain ⟨n32, t31, h⟩ := h
    obtain ⟨i33, h⟩ := h
    refine z_iast hx hb hK hM hS t31 0 rfl i33 d_Y_write_40 (fun H locs hM hS => ?_)
    obtain ⟨M34, e35⟩ : ∃ z, z = zwI M26 b29 x1.toNatClampNeg (zI M26 a0 4) := ⟨_, rfl⟩
    replace h := h M34 e35
    rw [← e35] at hM
    refine lv_aload_n hx hb d_Y_write_41 rfl (hl.at 0 rfl) ?_
    have t36 : zT M34 a0 = some (9, 40) := by rw [e35]; exact t28
    refine z_getI hx hb hW in_9 hown hK hM t36 (by decide) rfl 4 (by decide) rfl (hW _ k_589) rfl d_Y_write_42 ?_
    rw [← hQ]
    exact z_iret hx hb hr hlk hK hM hS h d_Y_write_45
  exact b_start M s.heap [] ls a0 x1 x2 x3 hl hM hS h
set_option maxHeartbeats 4000000 in
set_option maxRecDepth 100000 in
theorem c_Y_put (l : Launch) (ca : Nat → ClassId) (D : va_G) (M : zM) (sz : Nat) (a0 : Nat) (x1 : Int32) (x2 : Int32) (x3 : Int32) (post : Int32 → zM → Prop) : Met l y_Y_put (Cond.code y_Y_put prog_11_method_11_code 4 (some .int) :: zws) rm_Y_put (zPre ca D zcl (ztys ca) [.ref a0, .int x1, .int x2, .int x3] M sz (w_Y_put M a0 x1 x2 x3 post)) (va_Qi post (zB ca D zcl (ztys ca) (zA M sz)) (zA M sz)) 0 0 (zA M sz) := by
  refine z_met (cc := prog_11_method_11_code) (maxL := 4) (ret := (some .int)) (plainFor_of_name (by decide)) rfl (by simp [Value.category]) (Nat.le_of_ble_eq_true rfl) ?_
  intro p e s m args below meth c ls A hx hb hr hlk hml hts hown hnm hK hN hl hA0 hM hS hA h
  rw [← hA0]
  have hW : ∀ w ∈ zws, w.before args s = true := fun w hw => hts w (List.mem_cons_of_mem _ hw)
  have hl : zL ls 4 [(0, .ref a0), (1, .int x1), (2, .int x2), (3, .int x3)] := hl
  generalize hQ : MQ below (va_Qi post (zB ca D zcl (ztys ca) A) A) args s 0 0 A = Q
  have b_start : ∀ (M : zM) (H : Heap) (locs : List Loc) (ls : Array Slot) (a0 : Nat) (x1 : Int32) (x2 : Int32) (x3 : Int32), zL ls 4 [(0, .ref a0), (1, .int x1), (2, .int x2), (3, .int x3)] → zW ca D zcl A M H → va_S A s.heap H locs → w_Y_put M a0 x1 x2 x3 post → W p l e rm_Y_put s m args below meth c H locs 0 0 Q (F0 m 0 ls []) := by
    intro M H locs ls a0 x1 x2 x3 hl hM hS h
    unfold w_Y_put at h
    refine lv_iload_n hx hb d_Y_put_0 rfl (hl.at 1 rfl) ?_
    refine lv_iconst (v := (5 : Int32)) hx hb d_Y_put_1 (by decide) ?_
    refine z_cti (mc := 0) (ms := 0) (va_runS (As := [.int x1, .int (5 : Int32)]) (rest := []) ⟨hx, hb, hml, hown, hW⟩ (c_Y_within l ca D M H.size x1 (5 : Int32) _) (cw_Y_within hW k_711 ⟨by decide, by decide⟩) (zPre_S hK hN hM h) rfl rfl hl.1.1 rfl (lv_room (Nat.le_of_ble_eq_true rfl)) d_Y_put_2 ⟨by decide, by decide⟩) hM hS hA (fun r1 M2 H locs h hM hS => ?_)
    refine lv_if_eq (tgt := 28) hx hb d_Y_put_5 rfl (fun c3 => ?_) (fun c3 => ?_)
    · replace h := h.1 c3
      refine lv_iconst (v := (-1 : Int32)) hx hb d_Y_put_28 (by decide) ?_
      refine W.widen (k := 0) (n := 0) (by decide) (by decide) ?_
      rw [← hQ]
      exact z_iret hx hb hr hlk hK hM hS h d_Y_put_29
    · replace h := h.2 c3
      refine lv_iload_n hx hb d_Y_put_8 rfl (hl.at 3 rfl) ?_
      refine lv_sipush (v := (1000 : Int32)) hx hb d_Y_put_9 (by decide) ?_
      refine z_cti (mc := 0) (ms := 0) (va_runS (As := [.int x3, .int (1000 : Int32)]) (rest := []) ⟨hx, hb, hml, hown, hW⟩ (c_Y_within l ca D M2 H.size x3 (1000 : Int32) _) (cw_Y_within hW k_711 ⟨by decide, by decide⟩) (zPre_S hK hN hM h) rfl rfl hl.1.1 rfl (lv_room (Nat.le_of_ble_eq_true rfl)) d_Y_put_12 ⟨by decide, by decide⟩) hM hS hA (fun r4 M5 H locs h hM hS => ?_)
      refine lv_if_eq (tgt := 28) hx hb d_Y_put_15 rfl (fun c6 => ?_) (fun c6 => ?_)
      · replace h := h.1 c6
        refine lv_iconst (v := (-1 : Int32)) hx hb d_Y_put_28 (by decide) ?_
        refine W.widen (k := 0) (n := 0) (by decide) (by decide) ?_
        rw [← hQ]
        exact z_iret hx hb hr hlk hK hM hS h d_Y_put_29
      · replace h := h.2 c6
        refine lv_aload_n hx hb d_Y_put_18 rfl (hl.at 0 rfl) ?_
        refine lv_iload_n hx hb d_Y_put_19 rfl (hl.at 1 rfl) ?_
        refine lv_iload_n hx hb d_Y_put_20 rfl (hl.at 2 rfl) ?_
        refine lv_iload_n hx hb d_Y_put_21 rfl (hl.at 3 rfl) ?_
        obtain ⟨t7, h⟩ := h
        refine z_cti (mc := 0) (ms := 0) (va_runV (As := [.int x1, .int x2, .int x3]) (rest := []) ⟨hx, hb, hml, hown, hW⟩ (c_Y_write l ca D M5 H.size a0 x1 x2 x3 _) (cw_Y_write hW k_714 ⟨by decide, by decide⟩) (zPre_V hK hN hM h t7 (by decide) rfl) rfl rfl hl.1.1 rfl (lv_room (Nat.le_of_ble_eq_true rfl)) d_Y_put_22 ⟨by decide, by decide⟩) hM hS hA (fun r8 M9 H locs h hM hS => ?_)
        refine lv_goto (tgt := 29) hx hb d_Y_put_25 rfl ?_
        refine W.widen (k := 0) (n := 0) (by decide) (by decide) ?_
        rw [← hQ]
        exact z_iret hx hb hr hlk hK hM hS h d_Y_put_29
  exact b_start M s.heap [] ls a0 x1 x2 x3 hl hM hS h
