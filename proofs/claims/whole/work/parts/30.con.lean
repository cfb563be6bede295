set_option maxHeartbeats 4000000 in
set_option maxRecDepth 100000 in
theorem c_Y_count (l : Launch) (ca : Nat → ClassId) (D : va_G) (M : zM) (sz : Nat) (a0 : Nat) (x1 : Int32) (post : Int32 → zM → Prop) : Met l y_Y_count (Cond.code y_Y_count prog_11_method_32_code 5 (some .int) :: zws) rm_Y_count (zPre ca D zcl (ztys ca) [.ref a0, .int x1] M sz (w_Y_count M a0 x1 post)) (va_Qi post (zB ca D zcl (ztys ca) (zA M sz)) (zA M sz)) 0 0 (zA M sz) := by
  refine z_met (cc := prog_11_method_32_code) (maxL := 5) (ret := (some .int)) (plainFor_of_name (by decide)) rfl (by simp [Value.category]) (Nat.le_of_ble_eq_true rfl) ?_
  intro p e s m args below meth c ls A hx hb hr hlk hml hts hown hnm hK hN hl hA0 hM hS hA h
  rw [← hA0]
  have hW : ∀ w ∈ zws, w.before args s = true := fun w hw => hts w (List.mem_cons_of_mem _ hw)
  have hl : zL ls 5 [(0, .ref a0), (1, .int x1)] := hl
  generalize hQ : MQ below (va_Qi post (zB ca D zcl (ztys ca) A) A) args s 0 0 A = Q
  have b_7 : ∀ (n : Nat) (M : zM) (H : Heap) (locs : List Loc) (ls : Array Slot) (a0 : Nat) (x1 : Int32) (x2 : Int32) (x3 : Int32) (x4 : Int32), zL ls 5 [(0, .ref a0), (1, .int x1), (2, .int x2), (3, .int x3), (4, .int x4)] → zW ca D zcl A M H → va_S A s.heap H locs → w_Y_count_7 post n M a0 x1 x2 x3 x4 → W p l e rm_Y_count s m args below meth c H locs 0 0 Q (F0 m 7 ls []) := by
    intro n
    induction n with
    | zero =>
      intro M H locs ls a0 x1 x2 x3 x4 hl hM hS h
      exact False.elim h
    | succ n ih =>
      intro M H locs ls a0 x1 x2 x3 x4 hl hM hS h
      rw [w_Y_count_7] at h
      refine lv_iload hx hb d_Y_count_7 (hl.at 4 rfl) ?_
      refine lv_aload_n hx hb d_Y_count_9 rfl (hl.at 0 rfl) ?_
      obtain ⟨t1, h⟩ := h
      refine z_getI hx hb hW in_9 hown hK hM t1 (by decide) rfl 6 (by decide) rfl (hW _ k_591) rfl d_Y_count_10 ?_
      refine lv_icmp_ge (tgt := 58) hx hb d_Y_count_13 rfl (fun c2 => ?_) (fun c2 => ?_)
      · replace h := h.1 c2
        refine lv_iload_n hx hb d_Y_count_58 rfl (hl.at 1 rfl) ?_
        by_cases c3 : x1 = (0 : Int32)
        · replace h := h.1 c3
          refine z_tsIn (tgt := 108) (0 : Int32) c3 hx hb d_Y_count_59 (by decide) (by decide) rfl rfl ?_
          refine lv_aload_n hx hb d_Y_count_108 rfl (hl.at 0 rfl) ?_
          refine z_getI hx hb hW in_9 hown hK hM t1 (by decide) rfl 28 (by decide) rfl (hW _ k_613) rfl d_Y_count_109 ?_
          rw [← hQ]
          exact z_iret hx hb hr hlk hK hM hS h d_Y_count_112
        replace h := h.2 c3
        by_cases c4 : x1 = (1 : Int32)
        · replace h := h.1 c4
          refine z_tsIn (tgt := 113) (1 : Int32) c4 hx hb d_Y_count_59 (by decide) (by decide) rfl rfl ?_
          refine lv_aload_n hx hb d_Y_count_113 rfl (hl.at 0 rfl) ?_
          refine lv_aload_n hx hb d_Y_count_114 rfl (hl.at 0 rfl) ?_
          refine z_getI hx hb hW in_9 hown hK hM t1 (by decide) rfl 35 (by decide) rfl (hW _ k_620) rfl d_Y_count_115 ?_
          refine z_cti (mc := 0) (ms := 0) (va_runV (As := [.int (zI M a0 35)]) (rest := []) ⟨hx, hb, hml, hown, hW⟩ (c_Y_after l ca D M H.size a0 (zI M a0 35) _) (cw_Y_after hW k_734 ⟨by decide, by decide⟩) (zPre_V hK hN hM h t1 (by decide) rfl) rfl rfl hl.1.1 rfl (lv_room (Nat.le_of_ble_eq_true rfl)) d_Y_count_118 ⟨by decide, by decide⟩) hM hS hA (fun r5 M6 H locs h hM hS => ?_)
          refine W.widen (k := 0) (n := 0) (by decide) (by decide) ?_
          rw [← hQ]
          exact z_iret hx hb hr hlk hK hM hS h d_Y_count_121
        replace h := h.2 c4
        by_cases c7 : x1 = (2 : Int32)
        · replace h := h.1 c7
          refine z_tsIn (tgt := 122) (2 : Int32) c7 hx hb d_Y_count_59 (by decide) (by decide) rfl rfl ?_
          refine lv_aload_n hx hb d_Y_count_122 rfl (hl.at 0 rfl) ?_
          refine z_getI hx hb hW in_9 hown hK hM t1 (by decide) rfl 29 (by decide) rfl (hW _ k_614) rfl d_Y_count_123 ?_
          rw [← hQ]
          exact z_iret hx hb hr hlk hK hM hS h d_Y_count_126
        replace h := h.2 c7
        by_cases c8 : x1 = (3 : Int32)
        · replace h := h.1 c8
          refine z_tsIn (tgt := 127) (3 : Int32) c8 hx hb d_Y_count_59 (by decide) (by decide) rfl rfl ?_
          refine lv_aload_n hx hb d_Y_count_127 rfl (hl.at 0 rfl) ?_
          refine lv_aload_n hx hb d_Y_count_128 rfl (hl.at 0 rfl) ?_
          refine z_getI hx hb hW in_9 hown hK hM t1 (by decide) rfl 34 (by decide) rfl (hW _ k_619) rfl d_Y_count_129 ?_
          refine z_cti (mc := 0) (ms := 0) (va_runV (As := [.int (zI M a0 34)]) (rest := []) ⟨hx, hb, hml, hown, hW⟩ (c_Y_after l ca D M H.size a0 (zI M a0 34) _) (cw_Y_after hW k_734 ⟨by decide, by decide⟩) (zPre_V hK hN hM h t1 (by decide) rfl) rfl rfl hl.1.1 rfl (lv_room (Nat.le_of_ble_eq_true rfl)) d_Y_count_132 ⟨by decide, by decide⟩) hM hS hA (fun r9 M10 H locs h hM hS => ?_)
          refine W.widen (k := 0) (n := 0) (by decide) (by decide) ?_
          rw [← hQ]
          exact z_iret hx hb hr hlk hK hM hS h d_Y_count_135
        replace h := h.2 c8
        by_cases c11 : x1 = (4 : Int32)
        · replace h := h.1 c11
          refine z_tsIn (tgt := 136) (4 : Int32) c11 hx hb d_Y_count_59 (by decide) (by decide) rfl rfl ?_
          refine lv_aload_n hx hb d_Y_count_136 rfl (hl.at 0 rfl) ?_
          refine z_getI hx hb hW in_9 hown hK hM t1 (by decide) rfl 30 (by decide) rfl (hW _ k_615) rfl d_Y_count_137 ?_
          rw [← hQ]
          exact z_iret hx hb hr hlk hK hM hS h d_Y_count_140
        replace h := h.2 c11
        by_cases c12 : x1 = (5 : Int32)
        · replace h := h.1 c12
          refine z_tsIn (tgt := 141) (5 : Int32) c12 hx hb d_Y_count_59 (by decide) (by decide) rfl rfl ?_
          refine lv_aload_n hx hb d_Y_count_141 rfl (hl.at 0 rfl) ?_
          refine z_getI hx hb hW in_9 hown hK hM t1 (by decide) rfl 31 (by decide) rfl (hW _ k_616) rfl d_Y_count_142 ?_
          rw [← hQ]
          exact z_iret hx hb hr hlk hK hM hS h d_Y_count_145
        replace h := h.2 c12
        by_cases c13 : x1 = (6 : Int32)
        · replace h := h.1 c13
          refine z_tsIn (tgt := 146) (6 : Int32) c13 hx hb d_Y_count_59 (by decide) (by decide) rfl rfl ?_
          refine lv_iload_n hx hb d_Y_count_146 rfl (hl.at 3 rfl) ?_
          rw [← hQ]
          exact z_iret hx hb hr hlk hK hM hS h d_Y_count_147
        replace h := h.2 c13
        by_cases c14 : x1 = (7 : Int32)
        · replace h := h.1 c14
          refine z_tsIn (tgt := 148) (7 : Int32) c14 hx hb d_Y_count_59 (by decide) (by decide) rfl rfl ?_
          refine lv_aload_n hx hb d_Y_count_148 rfl (hl.at 0 rfl) ?_
          refine lv_aload_n hx hb d_Y_count_149 rfl (hl.at 0 rfl) ?_
          refine lv_aload_n hx hb d_Y_count_150 rfl (hl.at 0 rfl) ?_
          refine z_getI hx hb hW in_9 hown hK hM t1 (by decide) rfl 35 (by decide) rfl (hW _ k_620) rfl d_Y_count_151 ?_
          refine z_cti (mc := 0) (ms := 0) (va_runV (As := [.int (zI M a0 35)]) (rest := [.ref a0]) ⟨hx, hb, hml, hown, hW⟩ (c_Y_after l ca D M H.size a0 (zI M a0 35) _) (cw_Y_after hW k_734 ⟨by decide, by decide⟩) (zPre_V hK hN hM h t1 (by decide) rfl) rfl rfl hl.1.1 rfl (lv_room (Nat.le_of_ble_eq_true rfl)) d_Y_count_154 ⟨by decide, by decide⟩) hM hS hA (fun r15 M16 H locs h hM hS => ?_)
          refine lv_iconst (v := (-1 : Int32)) hx hb d_Y_count_157 (by decide) ?_
          obtain ⟨t17, h⟩ := h
          refine z_cti (mc := 0) (ms := 0) (va_runV (As := [.int r15, .int (-1 : Int32)]) (rest := []) ⟨hx, hb, hml, hown, hW⟩ (c_Y_risky l ca D M16 H.size a0 r15 (-1 : Int32) _) (cw_Y_risky hW k_742 ⟨by decide, by decide⟩) (zPre_V hK hN hM h t17 (by decide) rfl) rfl rfl hl.1.1 rfl (lv_room (Nat.le_of_ble_eq_true rfl)) d_Y_count_158 ⟨by decide, by decide⟩) hM hS hA (fun r18 M19 H locs h hM hS => ?_)
          refine W.widen (k := 0) (n := 0) (by decide) (by decide) ?_
          rw [← hQ]
          exact z_iret hx hb hr hlk hK hM hS h d_Y_count_161
        replace h := h.2 c14
        by_cases c20 : x1 = (8 : Int32)
        · replace h := h.1 c20
          refine z_tsIn (tgt := 162) (8 : Int32) c20 hx hb d_Y_count_59 (by decide) (by decide) rfl rfl ?_
          refine lv_iload_n hx hb d_Y_count_162 rfl (hl.at 2 rfl) ?_
          rw [← hQ]
          exact z_iret hx hb hr hlk hK hM hS h d_Y_count_163
        replace h := h.2 c20
        refine lv_tableOut (tgt := 164) (x := x1) hx hb d_Y_count_59 (by have z9 := z_out 9 (by decide) (x1) (fun k hk => match k, hk with | 0, _ => c3 | 1, _ => c4 | 2, _ => c7 | 3, _ => c8 | 4, _ => c11 | 5, _ => c12 | 6, _ => c13 | 7, _ => c14 | 8, _ => c20 | (k + 9), hk => absurd hk (by omega)); omega) rfl ?_
        refine lv_iconst (v := (-1 : Int32)) hx hb d_Y_count_164 (by decide) ?_
        rw [← hQ]
        exact z_iret hx hb hr hlk hK hM hS h d_Y_count_165
      · replace h := h.2 c2
        refine lv_aload_n hx hb d_Y_count_16 rfl (hl.at 0 rfl) ?_
        refine z_getR hx hb hW in_9 hown hK hM t1 (by decide) rfl 15 (by decide) rfl (hW _ k_600) rfl d_Y_count_17 ?_
        refine lv_iload hx hb d_Y_count_20 (hl.at 4 rfl) ?_
        obtain ⟨b21, hb22, h⟩ := h
        rw [hb22]
        obtain ⟨n24, t23, h⟩ := h
        obtain ⟨i25, h⟩ := h
        refine z_iald hx hb hK hM t23 0 rfl i25 d_Y_count_22 ?_
        refine lv_iconst (v := (3 : Int32)) hx hb d_Y_count_23 (by decide) ?_
        refine lv_icmp_ne (tgt := 33) hx hb d_Y_count_24 rfl (fun c26 => ?_) (fun c26 => ?_)
        · replace h := h.2 c26
          refine lv_iload_n hx hb d_Y_count_33 rfl (hl.at 2 rfl) ?_
          refine z_istore_n hx hb d_Y_count_34 rfl hl (by decide) rfl (fun ls hl => ?_)
          have hl : zL ls 5 [(2, .int x2), (0, .ref a0), (1, .int x1), (3, .int x3), (4, .int x4)] := hl
          refine lv_aload_n hx hb d_Y_count_35 rfl (hl.at 1 rfl) ?_
          refine lv_iload hx hb d_Y_count_36 (hl.at 4 rfl) ?_
          refine z_cti (mc := 0) (ms := 0) (va_runV (As := [.int x4]) (rest := []) ⟨hx, hb, hml, hown, hW⟩ (c_Y_outstanding l ca D M H.size a0 x4 _) (cw_Y_outstanding hW k_746 ⟨by decide, by decide⟩) (zPre_V hK hN hM h t1 (by decide) rfl) rfl rfl hl.1.1 rfl (lv_room (Nat.le_of_ble_eq_true rfl)) d_Y_count_38 ⟨by decide, by decide⟩) hM hS hA (fun r27 M28 H locs h hM hS => ?_)
          refine lv_if_eq (tgt := 50) hx hb d_Y_count_41 rfl (fun c29 => ?_) (fun c29 => ?_)
          · replace h := h.1 c29
            refine lv_iload_n hx hb d_Y_count_50 rfl (hl.at 3 rfl) ?_
            refine z_istore_n hx hb d_Y_count_51 rfl hl (by decide) rfl (fun ls hl => ?_)
            have hl : zL ls 5 [(3, .int x3), (2, .int x2), (0, .ref a0), (1, .int x1), (4, .int x4)] := hl
            refine z_iinc (k := 4) (v := x4 + (1 : Int32)) hx hb d_Y_count_52 hl rfl rfl (by decide) rfl (fun ls hl => ?_)
            have hl : zL ls 5 [(4, .int (x4 + (1 : Int32))), (3, .int x3), (2, .int x2), (0, .ref a0), (1, .int x1)] := hl
            refine lv_goto (tgt := 7) hx hb d_Y_count_55 rfl ?_
            exact ih M28 H locs ls a0 x1 x2 x3 (x4 + (1 : Int32)) (hl.sub [3, 4, 2, 1, 0] rfl) hM hS h
          · replace h := h.2 c29
            refine lv_iload_n hx hb d_Y_count_44 rfl (hl.at 3 rfl) ?_
            refine lv_iconst (v := (1 : Int32)) hx hb d_Y_count_45 (by decide) ?_
            refine lv_iadd hx hb d_Y_count_46 ?_
            refine lv_goto (tgt := 51) hx hb d_Y_count_47 rfl ?_
            refine z_istore_n hx hb d_Y_count_51 rfl hl (by decide) rfl (fun ls hl => ?_)
            have hl : zL ls 5 [(3, .int (x3 + (1 : Int32))), (2, .int x2), (0, .ref a0), (1, .int x1), (4, .int x4)] := hl
            refine z_iinc (k := 4) (v := x4 + (1 : Int32)) hx hb d_Y_count_52 hl rfl rfl (by decide) rfl (fun ls hl => ?_)
            have hl : zL ls 5 [(4, .int (x4 + (1 : Int32))), (3, .int (x3 + (1 : Int32))), (2, .int x2), (0, .ref a0), (1, .int x1)] := hl
            refine lv_goto (tgt := 7) hx hb d_Y_count_55 rfl ?_
            exact ih M28 H locs ls a0 x1 x2 (x3 + (1 : Int32)) (x4 + (1 : Int32)) (hl.sub [3, 4, 2, 1, 0] rfl) hM hS h
        · replace h := h.1 c26
          refine lv_iload_n hx hb d_Y_count_27 rfl (hl.at 2 rfl) ?_
          refine lv_iconst (v := (1 : Int32)) hx hb d_Y_count_28 (by decide) ?_
          refine lv_iadd hx hb d_Y_count_29 ?_
          refine lv_goto (tgt := 34) hx hb d_Y_count_30 rfl ?_
          refine z_istore_n hx hb d_Y_count_34 rfl hl (by decide) rfl (fun ls hl => ?_)
          have hl : zL ls 5 [(2, .int (x2 + (1 : Int32))), (0, .ref a0), (1, .int x1), (3, .int x3), (4, .int x4)] := hl
          refine lv_aload_n hx hb d_Y_count_35 rfl (hl.at 1 rfl) ?_
          refine lv_iload hx hb d_Y_count_36 (hl.at 4 rfl) ?_
          refine z_cti (mc := 0) (ms := 0) (va_runV (As := [.int x4]) (rest := []) ⟨hx, hb, hml, hown, hW⟩ (c_Y_outstanding l ca D M H.size a0 x4 _) (cw_Y_outstanding hW k_746 ⟨by decide, by decide⟩) (zPre_V hK hN hM h t1 (by decide) rfl) rfl rfl hl.1.1 rfl (lv_room (Nat.le_of_ble_eq_true rfl)) d_Y_count_38 ⟨by decide, by decide⟩) hM hS hA (fun r30 M31 H locs h hM hS => ?_)
          refine lv_if_eq (tgt := 50) hx hb d_Y_count_41 rfl (fun c32 => ?_) (fun c32 => ?_)
          · replace h := h.1 c32
            refine lv_iload_n hx hb d_Y_count_50 rfl (hl.at 3 rfl) ?_
            refine z_istore_n hx hb d_Y_count_51 rfl hl (by decide) rfl (fun ls hl => ?_)
            have hl : zL ls 5 [(3, .int x3), (2, .int (x2 + (1 : Int32))), (0, .ref a0), (1, .int x1), (4, .int x4)] := hl
            refine z_iinc (k := 4) (v := x4 + (1 : Int32)) hx hb d_Y_count_52 hl rfl rfl (by decide) rfl (fun ls hl => ?_)
            have hl : zL ls 5 [(4, .int (x4 + (1 : Int32))), (3, .int x3), (2, .int (x2 + (1 : Int32))), (0, .ref a0), (1, .int x1)] := hl
            refine lv_goto (tgt := 7) hx hb d_Y_count_55 rfl ?_
            exact ih M31 H locs ls a0 x1 (x2 + (1 : Int32)) x3 (x4 + (1 : Int32)) (hl.sub [3, 4, 2, 1, 0] rfl) hM hS h
          · replace h := h.2 c32
            refine lv_iload_n hx hb d_Y_count_44 rfl (hl.at 3 rfl) ?_
            refine lv_iconst (v := (1 : Int32)) hx hb d_Y_count_45 (by decide) ?_
            refine lv_iadd hx hb d_Y_count_46 ?_
            refine lv_goto (tgt := 51) hx hb d_Y_count_47 rfl ?_
            refine z_istore_n hx hb d_Y_count_51 rfl hl (by decide) rfl (fun ls hl => ?_)
            have hl : zL ls 5 [(3, .int (x3 + (1 : Int32))), (2, .int (x2 + (1 : Int32))), (0, .ref a0), (1, .int x1), (4, .int x4)] := hl
            refine z_iinc (k := 4) (v := x4 + (1 : Int32)) hx hb d_Y_count_52 hl rfl rfl (by decide) rfl (fun ls hl => ?_)
            have hl : zL ls 5 [(4, .int (x4 + (1 : Int32))), (3, .int (x3 + (1 : Int32))), (2, .int (x2 + (1 : Int32))), (0, .ref a0), (1, .int x1)] := hl
            refine lv_goto (tgt := 7) hx hb d_Y_count_55 rfl ?_
            exact ih M31 H locs ls a0 x1 (x2 + (1 : Int32)) (x3 + (1 : Int32)) (x4 + (1 : Int32)) (hl.sub [3, 4, 2, 1, 0] rfl) hM hS h
  have b_start : ∀ (M : zM) (H : Heap) (locs : List Loc) (ls : Array Slot) (a0 : Nat) (x1 : Int32), zL ls 5 [(0, .ref a0), (1, .int x1)] → zW ca D zcl A M H → va_S A s.heap H locs → w_Y_count M a0 x1 post → W p l e rm_Y_count s m args below meth c H locs 0 0 Q (F0 m 0 ls []) := by
    intro M H locs ls a0 x1 hl hM hS h
    unfold w_Y_count at h
    refine lv_iconst (v := (0 : Int32)) hx hb d_Y_count_0 (by decide) ?_
    refine z_istore_n hx hb d_Y_count_1 rfl hl (by decide) rfl (fun ls hl => ?_)
    have hl : zL ls 5 [(2, .int (0 : Int32)), (0, .ref a0), (1, .int x1)] := hl
    refine lv_iconst (v := (0 : Int32)) hx hb d_Y_count_2 (by decide) ?_
    refine z_istore_n hx hb d_Y_count_3 rfl hl (by decide) rfl (fun ls hl => ?_)
    have hl : zL ls 5 [(3, .int (0 : Int32)), (2, .int (0 : Int32)), (0, .ref a0), (1, .int x1)] := hl
    refine lv_iconst (v := (0 : Int32)) hx hb d_Y_count_4 (by decide) ?_
    refine z_istore hx hb d_Y_count_5 hl (by decide) rfl (fun ls hl => ?_)
    have hl : zL ls 5 [(4, .int (0 : Int32)), (3, .int (0 : Int32)), (2, .int (0 : Int32)), (0, .ref a0), (1, .int x1)] := hl
    obtain ⟨n33, h⟩ := h
    exact b_7 n33 M H locs ls a0 x1 (0 : Int32) (0 : Int32) (0 : Int32) (hl.sub [3, 4, 2, 1, 0] rfl) hM hS h
  exact b_start M s.heap [] ls a0 x1 hl hM hS h
