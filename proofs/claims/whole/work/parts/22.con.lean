set_option maxHeartbeats 4000000 in
set_option maxRecDepth 100000 in
theorem c_T_atRisk (l : Launch) (ca : Nat → ClassId) (D : va_G) (M : zM) (sz : Nat) (a0 : Nat) (post : Int32 → zM → Prop) : Met l y_T_atRisk (Cond.code y_T_atRisk prog_9_method_8_code 1 (some .int) :: zws) rm_T_atRisk (zPre ca D zcl (ztys ca) [.ref a0] M sz (w_T_atRisk M a0 post)) (va_Qi post (zB ca D zcl (ztys ca) (zA M sz)) (zA M sz)) 0 0 (zA M sz) := by
  refine z_met (cc := prog_9_method_8_code) (maxL := 1) (ret := (some .int)) (plainFor_of_name (by decide)) rfl (by simp [Value.category]) (Nat.le_of_ble_eq_true rfl) ?_
  intro p e s m args below meth c ls A hx hb hr hlk hml hts hown hnm hK hN hl hA0 hM hS hA h
  rw [← hA0]
  have hW : ∀ w ∈ zws, w.before args s = true := fun w hw => hts w (List.mem_cons_of_mem _ hw)
  have hl : zL ls 1 [(0, .ref a0)] := hl
  generalize hQ : MQ below (va_Qi post (zB ca D zcl (ztys ca) A) A) args s 0 0 A = Q
  have b_start : ∀ (M : zM) (H : Heap) (locs : List Loc) (ls : Array Slot) (a0 : Nat), zL ls 1 [(0, .ref a0)] → zW ca D zcl A M H → va_S A s.heap H locs → w_T_atRisk M a0 post → W p l e rm_T_atRisk s m args below meth c H locs 0 0 Q (F0 m 0 ls []) := by
    intro M H locs ls a0 hl hM hS h
    unfold w_T_atRisk at h
    refine lv_aload_n hx hb d_T_atRisk_0 rfl (hl.at 0 rfl) ?_
    refine lv_aload_n hx hb d_T_atRisk_1 rfl (hl.at 0 rfl) ?_
    obtain ⟨t1, h⟩ := h
    refine z_getI hx hb hW in_7 hown hK hM t1 (by decide) rfl 5 (by decide) rfl (hW _ k_62) rfl d_T_atRisk_2 ?_
    refine lv_iconst (v := (1 : Int32)) hx hb d_T_atRisk_5 (by decide) ?_
    refine lv_iadd hx hb d_T_atRisk_6 ?_
    refine z_cti (mc := 0) (ms := 0) (va_runV (As := [.int ((zI M a0 5) + (1 : Int32))]) (rest := []) ⟨hx, hb, hml, hown, hW⟩ (c_T_outstandingNeeding l ca D M H.size a0 ((zI M a0 5) + (1 : Int32)) _) (cw_T_outstandingNeeding hW k_385 ⟨by decide, by decide⟩) (zPre_V hK hN hM h t1 (by decide) rfl) rfl rfl hl.1.1 rfl (lv_room (Nat.le_of_ble_eq_true rfl)) d_T_atRisk_7 ⟨by decide, by decide⟩) hM hS hA (fun r2 M3 H locs h hM hS => ?_)
    refine W.widen (k := 0) (n := 0) (by decide) (by decide) ?_
    rw [← hQ]
    exact z_iret hx hb hr hlk hK hM hS h d_T_atRisk_10
  exact b_start M s.heap [] ls a0 hl hM hS h
set_option maxHeartbeats 4000000 in
set_option maxRecDepth 100000 in
theorem c_T_liveCount (l : Launch) (ca : Nat → ClassId) (D : va_G) (M : zM) (sz : Nat) (a0 : Nat) (post : Int32 → zM → Prop) : Met l y_T_liveCount (Cond.code y_T_liveCount prog_9_method_2_code 1 (some .int) :: zws) rm_T_liveCount (zPre ca D zcl (ztys ca) [.ref a0] M sz (w_T_liveCount M a0 post)) (va_Qi post (zB ca D zcl (ztys ca) (zA M sz)) (zA M sz)) 0 0 (zA M sz) := by
  refine z_met (cc := prog_9_method_2_code) (maxL := 1) (ret := (some .int)) (plainFor_of_name (by decide)) rfl (by simp [Value.category]) (Nat.le_of_ble_eq_true rfl) ?_
  intro p e s m args below meth c ls A hx hb hr hlk hml hts hown hnm hK hN hl hA0 hM hS hA h
  rw [← hA0]
  have hW : ∀ w ∈ zws, w.before args s = true := fun w hw => hts w (List.mem_cons_of_mem _ hw)
  have hl : zL ls 1 [(0, .ref a0)] := hl
  generalize hQ : MQ below (va_Qi post (zB ca D zcl (ztys ca) A) A) args s 0 0 A = Q
  have b_start : ∀ (M : zM) (H : Heap) (locs : List Loc) (ls : Array Slot) (a0 : Nat), zL ls 1 [(0, .ref a0)] → zW ca D zcl A M H → va_S A s.heap H locs → w_T_liveCount M a0 post → W p l e rm_T_liveCount s m args below meth c H locs 0 0 Q (F0 m 0 ls []) := by
    intro M H locs ls a0 hl hM hS h
    unfold w_T_liveCount at h
    refine lv_aload_n hx hb d_T_liveCount_0 rfl (hl.at 0 rfl) ?_
    obtain ⟨t1, h⟩ := h
    refine z_getI hx hb hW in_7 hown hK hM t1 (by decide) rfl 4 (by decide) rfl (hW _ k_60) rfl d_T_liveCount_1 ?_
    refine lv_iconst (v := (5 : Int32)) hx hb d_T_liveCount_4 (by decide) ?_
    refine va_mmin hx hb (by rw [hml]; exact hl.1.1.symm) hown (hW _ k_397) (hW _ k_398) (hW _ k_10) (hW _ k_399) (Nat.le_of_ble_eq_true rfl) (Nat.le_of_ble_eq_true rfl) (by decide) (by decide) d_T_liveCount_5 ?_
    rw [← hQ]
    exact z_iret hx hb hr hlk hK hM hS h d_T_liveCount_8
  exact b_start M s.heap [] ls a0 hl hM hS h
set_option maxHeartbeats 4000000 in
set_option maxRecDepth 100000 in
theorem c_M_floorMod (l : Launch) (ca : Nat → ClassId) (D : va_G) (M : zM) (sz : Nat) (x0 : Int32) (x1 : Int32) (post : Int32 → zM → Prop) : Met l y_M_floorMod (Cond.code y_M_floorMod prog_12_method_50_code 3 (some .int) :: zws) rm_M_floorMod (zPre ca D zcl (ztys ca) [.int x0, .int x1] M sz (w_M_floorMod M x0 x1 post)) (va_Qi post (zB ca D zcl (ztys ca) (zA M sz)) (zA M sz)) 0 0 (zA M sz) := by
  refine z_met (cc := prog_12_method_50_code) (maxL := 3) (ret := (some .int)) (by decide +kernel) rfl (by simp [Value.category]) (Nat.le_of_ble_eq_true rfl) ?_
  intro p e s m args below meth c ls A hx hb hr hlk hml hts hown hnm hK hN hl hA0 hM hS hA h
  rw [← hA0]
  have hW : ∀ w ∈ zws, w.before args s = true := fun w hw => hts w (List.mem_cons_of_mem _ hw)
  have hl : zL ls 3 [(0, .int x0), (1, .int x1)] := hl
  generalize hQ : MQ below (va_Qi post (zB ca D zcl (ztys ca) A) A) args s 0 0 A = Q
  have b_start : ∀ (M : zM) (H : Heap) (locs : List Loc) (ls : Array Slot) (x0 : Int32) (x1 : Int32), zL ls 3 [(0, .int x0), (1, .int x1)] → zW ca D zcl A M H → va_S A s.heap H locs → w_M_floorMod M x0 x1 post → W p l e rm_M_floorMod s m args below meth c H locs 0 0 Q (F0 m 0 ls []) := by
    intro M H locs ls x0 x1 hl hM hS h
    unfold w_M_floorMod at h
    refine lv_iload_n hx hb d_M_floorMod_0 rfl (hl.at 0 rfl) ?_
    refine lv_iload_n hx hb d_M_floorMod_1 rfl (hl.at 1 rfl) ?_
    obtain ⟨z1, h⟩ := h
    refine lv_irem hx hb d_M_floorMod_2 z1 ?_
    refine z_istore_n hx hb d_M_floorMod_3 rfl hl (by decide) rfl (fun ls hl => ?_)
    have hl : zL ls 3 [(2, .int (x0 - x0 / x1 * x1)), (0, .int x0), (1, .int x1)] := hl
    refine lv_iload_n hx hb d_M_floorMod_4 rfl (hl.at 1 rfl) ?_
    refine lv_iload_n hx hb d_M_floorMod_5 rfl (hl.at 2 rfl) ?_
    refine lv_ixor hx hb d_M_floorMod_6 ?_
    refine lv_if_ge (tgt := 18) hx hb d_M_floorMod_7 rfl (fun c2 => ?_) (fun c2 => ?_)
    · replace h := h.1 c2
      refine lv_iload_n hx hb d_M_floorMod_18 rfl (hl.at 0 rfl) ?_
      rw [← hQ]
      exact z_iret hx hb hr hlk hK hM hS h d_M_floorMod_19
    · replace h := h.2 c2
      refine lv_iload_n hx hb d_M_floorMod_10 rfl (hl.at 0 rfl) ?_
      refine lv_if_eq (tgt := 18) hx hb d_M_floorMod_11 rfl (fun c3 => ?_) (fun c3 => ?_)
      · replace h := h.1 c3
        refine lv_iload_n hx hb d_M_floorMod_18 rfl (hl.at 0 rfl) ?_
        rw [← hQ]
        exact z_iret hx hb hr hlk hK hM hS h d_M_floorMod_19
      · replace h := h.2 c3
        refine lv_iload_n hx hb d_M_floorMod_14 rfl (hl.at 0 rfl) ?_
        refine lv_iload_n hx hb d_M_floorMod_15 rfl (hl.at 2 rfl) ?_
        refine lv_iadd hx hb d_M_floorMod_16 ?_
        rw [← hQ]
        exact z_iret hx hb hr hlk hK hM hS h d_M_floorMod_17
  exact b_start M s.heap [] ls x0 x1 hl hM hS h
set_option maxHeartbeats 4000000 in
set_option maxRecDepth 100000 in
theorem c_T_nameOf (l : Launch) (ca : Nat → ClassId) (D : va_G) (M : zM) (sz : Nat) (a0 : Nat) (x1 : Int32) (post : Int32 → zM → Prop) : Met l y_T_nameOf (Cond.code y_T_nameOf prog_9_method_3_code 2 (some .int) :: zws) rm_T_nameOf (zPre ca D zcl (ztys ca) [.ref a0, .int x1] M sz (w_T_nameOf M a0 x1 post)) (va_Qi post (zB ca D zcl (ztys ca) (zA M sz)) (zA M sz)) 0 0 (zA M sz) := by
  refine z_met (cc := prog_9_method_3_code) (maxL := 2) (ret := (some .int)) (plainFor_of_name (by decide)) rfl (by simp [Value.category]) (Nat.le_of_ble_eq_true rfl) ?_
  intro p e s m args below meth c ls A hx hb hr hlk hml hts hown hnm hK hN hl hA0 hM hS hA h
  rw [← hA0]
  have hW : ∀ w ∈ zws, w.before args s = true := fun w hw => hts w (List.mem_cons_of_mem _ hw)
  have hl : zL ls 2 [(0, .ref a0), (1, .int x1)] := hl
  generalize hQ : MQ below (va_Qi post (zB ca D zcl (ztys ca) A) A) args s 0 0 A = Q
  have b_start : ∀ (M : zM) (H : Heap) (locs : List Loc) (ls : Array Slot) (a0 : Nat) (x1 : Int32), zL ls 2 [(0, .ref a0), (1, .int x1)] → zW ca D zcl A M H → va_S A s.heap H locs → w_T_nameOf M a0 x1 post → W p l e rm_T_nameOf s m args below meth c H locs 0 0 Q (F0 m 0 ls []) := by
    intro M H locs ls a0 x1 hl hM hS h
    unfold w_T_nameOf at h
    refine lv_aload_n hx hb d_T_nameOf_0 rfl (hl.at 0 rfl) ?_
    obtain ⟨t1, h⟩ := h
    refine z_getR hx hb hW in_7 hown hK hM t1 (by decide) rfl 0 (by decide) rfl (hW _ k_56) rfl d_T_nameOf_1 ?_
    refine lv_iload_n hx hb d_T_nameOf_4 rfl (hl.at 1 rfl) ?_
    refine lv_iconst (v := (5 : Int32)) hx hb d_T_nameOf_5 (by decide) ?_
    refine z_cti (mc := 0) (ms := 0) (va_runS (As := [.int x1, .int (5 : Int32)]) (rest := [va_rf (zR M a0 0)]) ⟨hx, hb, hml, hown, hW⟩ (c_M_floorMod l ca D M H.size x1 (5 : Int32) _) (cw_M_floorMod hW k_404 ⟨by decide, by decide⟩) (zPre_S hK hN hM h) rfl rfl hl.1.1 rfl (lv_room (Nat.le_trans (zc_cons (z_cat _) (zc_nil)) (by decide))) d_T_nameOf_6 ⟨by decide, by decide⟩) hM hS hA (fun r2 M3 H locs h hM hS => ?_)
    obtain ⟨b4, hb5, h⟩ := h
    rw [hb5]
    obtain ⟨n7, t6, h⟩ := h
    obtain ⟨i8, h⟩ := h
    refine z_iald hx hb hK hM t6 0 rfl i8 d_T_nameOf_9 ?_
    refine W.widen (k := 0) (n := 0) (by decide) (by decide) ?_
    rw [← hQ]
    exact z_iret hx hb hr hlk hK hM hS h d_T_nameOf_10
  exact b_start M s.heap [] ls a0 x1 hl hM hS h
set_option maxHeartbeats 4000000 in
set_option maxRecDepth 100000 in
theorem c_T_valueOf (l : Launch) (ca : Nat → ClassId) (D : va_G) (M : zM) (sz : Nat) (a0 : Nat) (x1 : Int32) (post : Int32 → zM → Prop) : Met l y_T_valueOf (Cond.code y_T_valueOf prog_9_method_4_code 2 (some .int) :: zws) rm_T_valueOf (zPre ca D zcl (ztys ca) [.ref a0, .int x1] M sz (w_T_valueOf M a0 x1 post)) (va_Qi post (zB ca D zcl (ztys ca) (zA M sz)) (zA M sz)) 0 0 (zA M sz) := by
  refine z_met (cc := prog_9_method_4_code) (maxL := 2) (ret := (some .int)) (plainFor_of_name (by decide)) rfl (by simp [Value.category]) (Nat.le_of_ble_eq_true rfl) ?_
  intro p e s m args below meth c ls A hx hb hr hlk hml hts hown hnm hK hN hl hA0 hM hS hA h
  rw [← hA0]
  have hW : ∀ w ∈ zws, w.before args s = true := fun w hw => hts w (List.mem_cons_of_mem _ hw)
  have hl : zL ls 2 [(0, .ref a0), (1, .int x1)] := hl
  generalize hQ : MQ below (va_Qi post (zB ca D zcl (ztys ca) A) A) args s 0 0 A = Q
  have b_start : ∀ (M : zM) (H : Heap) (locs : List Loc) (ls : Array Slot) (a0 : Nat) (x1 : Int32), zL ls 2 [(0, .ref a0), (1, .int x1)] → zW ca D zcl A M H → va_S A s.heap H locs → w_T_valueOf M a0 x1 post → W p l e rm_T_valueOf s m args below meth c H locs 0 0 Q (F0 m 0 ls []) := by
    intro M H locs ls a0 x1 hl hM hS h
    unfold w_T_valueOf at h
    refine lv_aload_n hx hb d_T_valueOf_0 rfl (hl.at 0 rfl) ?_
    obtain ⟨t1, h⟩ := h
    refine z_getR hx hb hW in_7 hown hK hM t1 (by decide) rfl 1 (by decide) rfl (hW _ k_57) rfl d_T_valueOf_1 ?_
    refine lv_iload_n hx hb d_T_valueOf_4 rfl (hl.at 1 rfl) ?_
    refine lv_iconst (v := (5 : Int32)) hx hb d_T_valueOf_5 (by decide) ?_
    refine z_cti (mc := 0) (ms := 0) (va_runS (As := [.int x1, .int (5 : Int32)]) (rest := [va_rf (zR M a0 1)]) ⟨hx, hb, hml, hown, hW⟩ (c_M_floorMod l ca D M H.size x1 (5 : Int32) _) (cw_M_floorMod hW k_404 ⟨by decide, by decide⟩) (zPre_S hK hN hM h) rfl rfl hl.1.1 rfl (lv_room (Nat.le_trans (zc_cons (z_cat _) (zc_nil)) (by decide))) d_T_valueOf_6 ⟨by decide, by decide⟩) hM hS hA (fun r2 M3 H locs h hM hS => ?_)
    obtain ⟨b4, hb5, h⟩ := h
    rw [hb5]
    obtain ⟨n7, t6, h⟩ := h
    obtain ⟨i8, h⟩ := h
    refine z_iald hx hb hK hM t6 0 rfl i8 d_T_valueOf_9 ?_
    refine W.widen (k := 0) (n := 0) (by decide) (by decide) ?_
    rw [← hQ]
    exact z_iret hx hb hr hlk hK hM hS h d_T_valueOf_10
  exact b_start M s.heap [] ls a0 x1 hl hM hS h
set_option maxHeartbeats 4000000 in
set_option maxRecDepth 100000 in
theorem c_T_findLive (l : Launch) (ca : Nat → ClassId) (D : va_G) (M : zM) (sz : Nat) (a0 : Nat) (x1 : Int32) (x2 : Int32) (post : Int32 → zM → Prop) : Met l y_T_findLive (Cond.code y_T_findLive prog_9_method_11_code 5 (some .int) :: zws) rm_T_findLive (zPre ca D zcl (ztys ca) [.ref a0, .int x1, .int x2] M sz (w_T_findLive M a0 x1 x2 post)) (va_Qi post (zB ca D zcl (ztys ca) (zA M sz)) (zA M sz)) 0 0 (zA M sz) := by
  refine z_met (cc := prog_9_method_11_code) (maxL := 5) (ret := (some .int)) (plainFor_of_name (by decide)) rfl (by simp [Value.category]) (Nat.le_of_ble_eq_true rfl) ?_
  intro p e s m args below meth c ls A hx hb hr hlk hml hts hown hnm hK hN hl hA0 hM hS hA h
  rw [← hA0]
  have hW : ∀ w ∈ zws, w.before args s = true := fun w hw => hts w (List.mem_cons_of_mem _ hw)
  have hl : zL ls 5 [(0, .ref a0), (1, .int x1), (2, .int x2)] := hl
  generalize hQ : MQ below (va_Qi post (zB ca D zcl (ztys ca) A) A) args s 0 0 A = Q
  have b_18 : ∀ (n : Nat) (M : zM) (H : Heap) (locs : List Loc) (ls : Array Slot) (a0 : Nat) (x1 : Int32) (x2 : Int32) (x3 : Int32) (x4 : Int32), zL ls 5 [(0, .ref a0), (1, .int x1), (2, .int x2), (3, .int x3), (4, .int x4)] → zW ca D zcl A M H → va_S A s.heap H locs → w_T_findLive_18 post n M a0 x1 x2 x3 x4 → W p l e rm_T_findLive s m args below meth c H locs 0 0 Q (F0 m 18 ls []) := by
    intro n
    induction n with
    | zero =>
      intro M H locs ls a0 x1 x2 x3 x4 hl hM hS h
      exact False.elim h
    | succ n ih =>
      intro M H locs ls a0 x1 x2 x3 x4 hl hM hS h
      rw [w_T_findLive_18] at h
      refine lv_iload hx hb d_T_findLive_18 (hl.at 4 rfl) ?_
      refine lv_iload_n hx hb d_T_findLive_20 rfl (hl.at 3 rfl) ?_
      refine lv_icmp_lt (tgt := 53) hx hb d_T_findLive_21 rfl (fun c5 => ?_) (fun c5 => ?_)
      · replace h := h.1 c5
        refine lv_iconst (v := (-1 : Int32)) hx hb d_T_findLive_53 (by decide) ?_
        rw [← hQ]
        exact z_iret hx hb hr hlk hK hM hS h d_T_findLive_54
      · replace h := h.2 c5
        refine lv_aload_n hx hb d_T_findLive_24 rfl (hl.at 0 rfl) ?_
        refine lv_iload hx hb d_T_findLive_25 (hl.at 4 rfl) ?_
        obtain ⟨t6, h⟩ := h
        refine z_cti (mc := 0) (ms := 0) (va_runV (As := [.int x4]) (rest := []) ⟨hx, hb, hml, hown, hW⟩ (c_T_nameOf l ca D M H.size a0 x4 _) (cw_T_nameOf hW k_400 ⟨by decide, by decide⟩) (zPre_V hK hN hM h t6 (by decide) rfl) rfl rfl hl.1.1 rfl (lv_room (Nat.le_of_ble_eq_true rfl)) d_T_findLive_27 ⟨by decide, by decide⟩) hM hS hA (fun r7 M8 H locs h hM hS => ?_)
        refine lv_iload_n hx hb d_T_findLive_30 rfl (hl.at 1 rfl) ?_
        refine lv_icmp_ne (tgt := 47) hx hb d_T_findLive_31 rfl (fun c9 => ?_) (fun c9 => ?_)
        · replace h := h.2 c9
          refine z_iinc (k := 4) (v := x4 + (-1 : Int32)) hx hb d_T_findLive_47 hl rfl rfl (by decide) rfl (fun ls hl => ?_)
          have hl : zL ls 5 [(4, .int (x4 + (-1 : Int32))), (0, .ref a0), (1, .int x1), (2, .int x2), (3, .int x3)] := hl
          refine lv_goto (tgt := 18) hx hb d_T_findLive_50 rfl ?_
          exact ih M8 H locs ls a0 x1 x2 x3 (x4 + (-1 : Int32)) (hl.sub [1, 2, 3, 4, 0] rfl) hM hS h
        · replace h := h.1 c9
          refine lv_aload_n hx hb d_T_findLive_34 rfl (hl.at 0 rfl) ?_
          refine lv_iload hx hb d_T_findLive_35 (hl.at 4 rfl) ?_
          obtain ⟨t10, h⟩ := h
          refine z_cti (mc := 0) (ms := 0) (va_runV (As := [.int x4]) (rest := []) ⟨hx, hb, hml, hown, hW⟩ (c_T_valueOf l ca D M8 H.size a0 x4 _) (cw_T_valueOf hW k_407 ⟨by decide, by decide⟩) (zPre_V hK hN hM h t10 (by decide) rfl) rfl rfl hl.1.1 rfl (lv_room (Nat.le_of_ble_eq_true rfl)) d_T_findLive_37 ⟨by decide, by decide⟩) hM hS hA (fun r11 M12 H locs h hM hS => ?_)
          refine lv_iload_n hx hb d_T_findLive_40 rfl (hl.at 2 rfl) ?_
          refine lv_icmp_ne (tgt := 47) hx hb d_T_findLive_41 rfl (fun c13 => ?_) (fun c13 => ?_)
          · replace h := h.2 c13
            refine z_iinc (k := 4) (v := x4 + (-1 : Int32)) hx hb d_T_findLive_47 hl rfl rfl (by decide) rfl (fun ls hl => ?_)
            have hl : zL ls 5 [(4, .int (x4 + (-1 : Int32))), (0, .ref a0), (1, .int x1), (2, .int x2), (3, .int x3)] := hl
            refine lv_goto (tgt := 18) hx hb d_T_findLive_50 rfl ?_
            exact ih M12 H locs ls a0 x1 x2 x3 (x4 + (-1 : Int32)) (hl.sub [1, 2, 3, 4, 0] rfl) hM hS h
          · replace h := h.1 c13
            refine lv_iload hx hb d_T_findLive_44 (hl.at 4 rfl) ?_
            refine W.widen (k := 0) (n := 0) (by decide) (by decide) ?_
            rw [← hQ]
            exact z_iret hx hb hr hlk hK hM hS h d_T_findLive_46
  have b_start : ∀ (M : zM) (H : Heap) (locs : List Loc) (ls : Array Slot) (a0 : Nat) (x1 : Int32) (x2 : Int32), zL ls 5 [(0, .ref a0), (1, .int x1), (2, .int x2)] → zW ca D zcl A M H → va_S A s.heap H locs → w_T_findLive M a0 x1 x2 post → W p l e rm_T_findLive s m args below meth c H locs 0 0 Q (F0 m 0 ls []) := by
    intro M H locs ls a0 x1 x2 hl hM hS h
    unfold w_T_findLive at h
    refine lv_aload_n hx hb d_T_findLive_0 rfl (hl.at 0 rfl) ?_
    obtain ⟨t1, h⟩ := h
    refine z_getI hx hb hW in_7 hown hK hM t1 (by decide) rfl 4 (by decide) rfl (hW _ k_60) rfl d_T_findLive_1 ?_
    refine lv_aload_n hx hb d_T_findLive_4 rfl (hl.at 0 rfl) ?_
    refine z_cti (mc := 0) (ms := 0) (va_runV (As := []) (rest := [.int (zI M a0 4)]) ⟨hx, hb, hml, hown, hW⟩ (c_T_liveCount l ca D M H.size a0 _) (cw_T_liveCount hW k_393 ⟨by decide, by decide⟩) (zPre_V hK hN hM h t1 (by decide) rfl) rfl rfl hl.1.1 rfl (lv_room (Nat.le_of_ble_eq_true rfl)) d_T_findLive_5 ⟨by decide, by decide⟩) hM hS hA (fun r2 M3 H locs h hM hS => ?_)
    refine lv_isub hx hb d_T_findLive_8 ?_
    refine z_istore_n hx hb d_T_findLive_9 rfl hl (by decide) rfl (fun ls hl => ?_)
    have hl : zL ls 5 [(3, .int ((zI M a0 4) - r2)), (0, .ref a0), (1, .int x1), (2, .int x2)] := hl
    refine lv_aload_n hx hb d_T_findLive_10 rfl (hl.at 1 rfl) ?_
    obtain ⟨t4, h⟩ := h
    refine z_getI hx hb hW in_7 hown hK hM t4 (by decide) rfl 4 (by decide) rfl (hW _ k_60) rfl d_T_findLive_11 ?_
    refine lv_iconst (v := (1 : Int32)) hx hb d_T_findLive_14 (by decide) ?_
    refine lv_isub hx hb d_T_findLive_15 ?_
    refine z_istore hx hb d_T_findLive_16 hl (by decide) rfl (fun ls hl => ?_)
    have hl : zL ls 5 [(4, .int ((zI M3 a0 4) - (1 : Int32))), (3, .int ((zI M a0 4) - r2)), (0, .ref a0), (1, .int x1), (2, .int x2)] := hl
    refine W.widen (k := 0) (n := 0) (by decide) (by decide) ?_
    obtain ⟨n14, h⟩ := h
    exact b_18 n14 M3 H locs ls a0 x1 x2 ((zI M a0 4) - r2) ((zI M3 a0 4) - (1 : Int32)) (hl.sub [2, 3, 4, 1, 0] rfl) hM hS h
  exact b_start M s.heap [] ls a0 x1 x2 hl hM hS h
set_option maxHeartbeats 4000000 in
set_option maxRecDepth 100000 in
theorem c_T_refer (l : Launch) (ca : Nat → ClassId) (D : va_G) (M : zM) (sz : Nat) (a0 : Nat) (a1 : Nat) (x2 : Int32) (post : zM → Prop) : Met l y_T_refer (Cond.code y_T_refer prog_9_method_14_code 3 none :: zws) rm_T_refer (zPre ca D zcl (ztys ca) [.ref a0, .ref a1, .int x2] M sz (w_T_refer M a0 a1 x2 post)) (va_Qv post (zB ca D zcl (ztys ca) (zA M sz)) (zA M sz)) 0 0 (zA M sz) := by
  refine z_met (cc := prog_9_method_14_code) (maxL := 3) (ret := none) (plainFor_of_name (by decide)) rfl (by simp [Value.category]) (Nat.le_of_ble_eq_true rfl) ?_
  intro p e s m args below meth c ls A hx hb hr hlk hml hts hown hnm hK hN hl hA0 hM hS hA h
  rw [← hA0]
  have hW : ∀ w ∈ zws, w.before args s = true := fun w hw => hts w (List.mem_cons_of_mem _ hw)
  have hl : zL ls 3 [(0, .ref a0), (1, .ref a1), (2, .int x2)] := hl
  generalize hQ : MQ below (va_Qv post (zB ca D zcl (ztys ca) A) A) args s 0 0 A = Q
  have b_start : ∀ (M : zM) (H : Heap) (locs : List Loc) (ls : Array Slot) (a0 : Nat) (a1 : Nat) (x2 : Int32), zL ls 3 [(0, .ref a0), (1, .ref a1), (2, .int x2)] → zW ca D zcl A M H → va_S A s.heap H locs → w_T_refer M a0 a1 x2 post → W p l e rm_T_refer s m args below meth c H locs 0 0 Q (F0 m 0 ls []) := by
    intro M H locs ls a0 a1 x2 hl hM hS h
    unfold w_T_refer at h
    refine lv_aload_n hx hb d_T_refer_0 rfl (hl.at 1 rfl) ?_
    refine lv_iload_n hx hb d_T_refer_1 rfl (hl.at 2 rfl) ?_
    obtain ⟨t1, h⟩ := h
    refine z_ctv (mc := 0) (ms := 0) (va_runV (As := [.int x2]) (rest := []) ⟨hx, hb, hml, hown, hW⟩ (c_A_addReference l ca D M H.size a1 x2 _) (cw_A_addReference hW k_415 ⟨by decide, by decide⟩) (zPre_V hK hN hM h t1 (by decide) rfl) rfl rfl hl.1.1 rfl (lv_room (Nat.le_of_ble_eq_true rfl)) d_T_refer_2 ⟨by decide, by decide⟩) hM hS hA (fun M2 H locs h hM hS => ?_)
    refine lv_aload_n hx hb d_T_refer_5 rfl (hl.at 0 rfl) ?_
    refine lv_dup hx hb d_T_refer_6 rfl ?_
    obtain ⟨t3, h⟩ := h
    refine z_getI hx hb hW in_7 hown hK hM t3 (by decide) rfl 7 (by decide) rfl (hW _ k_66) rfl d_T_refer_7 ?_
    refine lv_iconst (v := (1 : Int32)) hx hb d_T_refer_10 (by decide) ?_
    refine lv_iadd hx hb d_T_refer_11 ?_
    refine z_putI hx hb hW in_7 ty_7 tyok_7 nm_7 hown hK hM hS t3 (by decide) rfl 7 (by decide) rfl (hW _ k_66) rfl (Or.inl rfl) rfl rfl d_T_refer_12 (fun H locs hM hS => ?_)
    obtain ⟨M4, e5⟩ : ∃ z, z = zwI M2 a0 7 ((zI M2 a0 7) + (1 : Int32)) := ⟨_, rfl⟩
    replace h := h M4 e5
    rw [← e5] at hM
    refine W.widen (k := 0) (n := 0) (by decide) (by decide) ?_
    rw [← hQ]
    exact z_vret hx hb hr hlk hK hM hS h d_T_refer_15
  exact b_start M s.heap [] ls a0 a1 x2 hl hM hS h
set_option maxHeartbeats 4000000 in
set_option maxRecDepth 100000 in
theorem c_T_referencesTo (l : Launch) (ca : Nat → ClassId) (D : va_G) (M : zM) (sz : Nat) (a0 : Nat) (x1 : Int32) (post : Int32 → zM → Prop) : Met l y_T_referencesTo (Cond.code y_T_referencesTo prog_9_method_10_code 5 (some .int) :: zws) rm_T_referencesTo (zPre ca D zcl (ztys ca) [.ref a0, .int x1] M sz (w_T_referencesTo M a0 x1 post)) (va_Qi post (zB ca D zcl (ztys ca) (zA M sz)) (zA M sz)) 0 0 (zA M sz) := by
  refine z_met (cc := prog_9_method_10_code) (maxL := 5) (ret := (some .int)) (plainFor_of_name (by decide)) rfl (by simp [Value.category]) (Nat.le_of_ble_eq_true rfl) ?_
  intro p e s m args below meth c ls A hx hb hr hlk hml hts hown hnm hK hN hl hA0 hM hS hA h
  rw [← hA0]
  have hW : ∀ w ∈ zws, w.before args s = true := fun w hw => hts w (List.mem_cons_of_mem _ hw)
  have hl : zL ls 5 [(0, .ref a0), (1, .int x1)] := hl
  generalize hQ : MQ below (va_Qi post (zB ca D zcl (ztys ca) A) A) args s 0 0 A = Q
  have b_4 : ∀ (n : Nat) (M : zM) (H : Heap) (locs : List Loc) (ls : Array Slot) (a0 : Nat) (x1 : Int32) (x2 : Int32) (x3 : Int32), zL ls 5 [(0, .ref a0), (1, .int x1), (2, .int x2), (3, .int x3)] → zW ca D zcl A M H → va_S A s.heap H locs → w_T_referencesTo_4 post n M a0 x1 x2 x3 → W p l e rm_T_referencesTo s m args below meth c H locs 0 0 Q (F0 m 4 ls []) := by
    intro n
    induction n with
    | zero =>
      intro M H locs ls a0 x1 x2 x3 hl hM hS h
      exact False.elim h
    | succ n ih =>
      intro M H locs ls a0 x1 x2 x3 hl hM hS h
      rw [w_T_referencesTo_4] at h
      refine lv_iload_n hx hb d_T_referencesTo_4 rfl (hl.at 3 rfl) ?_
      refine lv_aload_n hx hb d_T_referencesTo_5 rfl (hl.at 0 rfl) ?_
      obtain ⟨t1, h⟩ := h
      refine z_getI hx hb hW in_7 hown hK hM t1 (by decide) rfl 3 (by decide) rfl (hW _ k_59) rfl d_T_referencesTo_6 ?_
      refine lv_icmp_ge (tgt := 60) hx hb d_T_referencesTo_9 rfl (fun c2 => ?_) (fun c2 => ?_)
      · replace h := h.1 c2
        refine lv_iload_n hx hb d_T_referencesTo_60 rfl (hl.at 2 rfl) ?_
        rw [← hQ]
        exact z_iret hx hb hr hlk hK hM hS h d_T_referencesTo_61
      · replace h := h.2 c2
        refine lv_iload_n hx hb d_T_referencesTo_12 rfl (hl.at 3 rfl) ?_
        refine lv_aload_n hx hb d_T_referencesTo_13 rfl (hl.at 0 rfl) ?_
        refine z_getR hx hb hW in_7 hown hK hM t1 (by decide) rfl 2 (by decide) rfl (hW _ k_58) rfl d_T_referencesTo_14 ?_
        obtain ⟨b3, hb4, h⟩ := h
        rw [hb4]
        obtain ⟨n6, t5, h⟩ := h
        refine z_alen hx hb hK hM t5 (by decide) 3 rfl d_T_referencesTo_17 ?_
        refine lv_icmp_ge (tgt := 60) hx hb d_T_referencesTo_18 rfl (fun c7 => ?_) (fun c7 => ?_)
        · replace h := h.1 c7
          refine lv_iload_n hx hb d_T_referencesTo_60 rfl (hl.at 2 rfl) ?_
          rw [← hQ]
          exact z_iret hx hb hr hlk hK hM hS h d_T_referencesTo_61
        · replace h := h.2 c7
          refine lv_aload_n hx hb d_T_referencesTo_21 rfl (hl.at 0 rfl) ?_
          refine z_getR hx hb hW in_7 hown hK hM t1 (by decide) rfl 2 (by decide) rfl (hW _ k_58) rfl d_T_referencesTo_22 ?_
          refine lv_iload_n hx hb d_T_referencesTo_25 rfl (hl.at 3 rfl) ?_
          obtain ⟨b8, hb9, h⟩ := h
          rw [hb9]
          obtain ⟨n11, t10, h⟩ := h
          obtain ⟨i12, h⟩ := h
          refine z_aald hx hb hK hM t10 (by decide) 3 rfl i12 d_T_referencesTo_26 ?_
          obtain ⟨r13, er14⟩ : ∃ z, z = zR M b8 x3.toNatClampNeg := ⟨_, rfl⟩
          replace h := h r13 er14
          rw [← er14]
          refine z_astore (x := r13) hx hb d_T_referencesTo_27 hl (by decide) rfl (fun ls hl => ?_)
          have hl : zL ls 5 [(4, va_rf r13), (0, .ref a0), (1, .int x1), (2, .int x2), (3, .int x3)] := hl
          refine z_aload hx hb d_T_referencesTo_29 (hl.at 0 rfl) ?_
          cases r13 with
          | none =>
            replace h := h.1 rfl
            refine lv_ifnullN (tgt := 54) hx hb d_T_referencesTo_31 rfl ?_
            refine z_iinc (k := 4) (v := x3 + (1 : Int32)) hx hb d_T_referencesTo_54 hl rfl rfl (by decide) rfl (fun ls hl => ?_)
            have hl : zL ls 5 [(3, .int (x3 + (1 : Int32))), (4, va_rf none), (0, .ref a0), (1, .int x1), (2, .int x2)] := hl
            refine lv_goto (tgt := 4) hx hb d_T_referencesTo_57 rfl ?_
            exact ih M H locs ls a0 x1 x2 (x3 + (1 : Int32)) (hl.sub [2, 3, 4, 0] rfl) hM hS h
          | some b15 =>
            replace h := h.2 b15 rfl
            refine lv_ifnull hx hb d_T_referencesTo_31 ?_
            refine lv_aload hx hb d_T_referencesTo_34 (hl.at 0 rfl) ?_
            obtain ⟨t16, h⟩ := h
            refine z_getI hx hb hW in_0 hown hK hM t16 (by decide) rfl 9 (by decide) rfl (hW _ k_353) rfl d_T_referencesTo_36 ?_
            refine lv_if_eq (tgt := 54) hx hb d_T_referencesTo_39 rfl (fun c17 => ?_) (fun c17 => ?_)
            · replace h := h.1 c17
              refine z_iinc (k := 4) (v := x3 + (1 : Int32)) hx hb d_T_referencesTo_54 hl rfl rfl (by decide) rfl (fun ls hl => ?_)
              have hl : zL ls 5 [(3, .int (x3 + (1 : Int32))), (4, .ref b15), (0, .ref a0), (1, .int x1), (2, .int x2)] := hl
              refine lv_goto (tgt := 4) hx hb d_T_referencesTo_57 rfl ?_
              exact ih M H locs ls a0 x1 x2 (x3 + (1 : Int32)) (hl.sub [2, 3, 4, 0] rfl) hM hS h
            · replace h := h.2 c17
              refine lv_aload hx hb d_T_referencesTo_42 (hl.at 0 rfl) ?_
              refine lv_iload_n hx hb d_T_referencesTo_44 rfl (hl.at 2 rfl) ?_
              refine z_cti (mc := 0) (ms := 0) (va_runV (As := [.int x1]) (rest := []) ⟨hx, hb, hml, hown, hW⟩ (c_A_refersTo l ca D M H.size b15 x1 _) (cw_A_refersTo hW k_428 ⟨by decide, by decide⟩) (zPre_V hK hN hM h t16 (by decide) rfl) rfl rfl hl.1.1 rfl (lv_room (Nat.le_of_ble_eq_true rfl)) d_T_referencesTo_45 ⟨by decide, by decide⟩) hM hS hA (fun r18 M19 H locs h hM hS => ?_)
              refine lv_if_eq (tgt := 54) hx hb d_T_referencesTo_48 rfl (fun c20 => ?_) (fun c20 => ?_)
              · replace h := h.1 c20
                refine z_iinc (k := 4) (v := x3 + (1 : Int32)) hx hb d_T_referencesTo_54 hl rfl rfl (by decide) rfl (fun ls hl => ?_)
                have hl : zL ls 5 [(3, .int (x3 + (1 : Int32))), (4, .ref b15), (0, .ref a0), (1, .int x1), (2, .int x2)] := hl
                refine lv_goto (tgt := 4) hx hb d_T_referencesTo_57 rfl ?_
                exact ih M19 H locs ls a0 x1 x2 (x3 + (1 : Int32)) (hl.sub [2, 3, 4, 0] rfl) hM hS h
              · replace h := h.2 c20
                refine z_iinc (k := 3) (v := x2 + (1 : Int32)) hx hb d_T_referencesTo_51 hl rfl rfl (by decide) rfl (fun ls hl => ?_)
                have hl : zL ls 5 [(2, .int (x2 + (1 : Int32))), (4, .ref b15), (0, .ref a0), (1, .int x1), (3, .int x3)] := hl
                refine z_iinc (k := 4) (v := x3 + (1 : Int32)) hx hb d_T_referencesTo_54 hl rfl rfl (by decide) rfl (fun ls hl => ?_)
                have hl : zL ls 5 [(3, .int (x3 + (1 : Int32))), (2, .int (x2 + (1 : Int32))), (4, .ref b15), (0, .ref a0), (1, .int x1)] := hl
                refine lv_goto (tgt := 4) hx hb d_T_referencesTo_57 rfl ?_
                exact ih M19 H locs ls a0 x1 (x2 + (1 : Int32)) (x3 + (1 : Int32)) (hl.sub [3, 4, 1, 0] rfl) hM hS h
  have b_start : ∀ (M : zM) (H : Heap) (locs : List Loc) (ls : Array Slot) (a0 : Nat) (x1 : Int32), zL ls 5 [(0, .ref a0), (1, .int x1)] → zW ca D zcl A M H → va_S A s.heap H locs → w_T_referencesTo M a0 x1 post → W p l e rm_T_referencesTo s m args below meth c H locs 0 0 Q (F0 m 0 ls []) := by
    intro M H locs ls a0 x1 hl hM hS h
    unfold w_T_referencesTo at h
    refine lv_iconst (v := (0 : Int32)) hx hb d_T_referencesTo_0 (by decide) ?_
    refine z_istore_n hx hb d_T_referencesTo_1 rfl hl (by decide) rfl (fun ls hl => ?_)
    have hl : zL ls 5 [(2, .int (0 : Int32)), (0, .ref a0), (1, .int x1)] := hl
    refine lv_iconst (v := (0 : Int32)) hx hb d_T_referencesTo_2 (by decide) ?_
    refine z_istore_n hx hb d_T_referencesTo_3 rfl hl (by decide) rfl (fun ls hl => ?_)
    have hl : zL ls 5 [(3, .int (0 : Int32)), (2, .int (0 : Int32)), (0, .ref a0), (1, .int x1)] := hl
    obtain ⟨n22, h⟩ := h
    exact b_4 n22 M H locs ls a0 x1 (0 : Int32) (0 : Int32) (hl.sub [2, 3, 1, 0] rfl) hM hS h
  exact b_start M s.heap [] ls a0 x1 hl hM hS h
set_option maxHeartbeats 4000000 in
set_option maxRecDepth 100000 in
theorem c_T_hasRoomFor (l : Launch) (ca : Nat → ClassId) (D : va_G) (M : zM) (sz : Nat) (a0 : Nat) (a1 : Nat) (post : Int32 → zM → Prop) : Met l y_T_hasRoomFor (Cond.code y_T_hasRoomFor prog_9_method_12_code 3 (some .boolean) :: zws) rm_T_hasRoomFor (zPre ca D zcl (ztys ca) [.ref a0, .ref a1] M sz (w_T_hasRoomFor M a0 a1 post)) (va_Qi post (zB ca D zcl (ztys ca) (zA M sz)) (zA M sz)) 0 0 (zA M sz) := by
  refine z_met (cc := prog_9_method_12_code) (maxL := 3) (ret := (some .boolean)) (plainFor_of_name (by decide)) rfl (by simp [Value.category]) (Nat.le_of_ble_eq_true rfl) ?_
  intro p e s m args below meth c ls A hx hb hr hlk hml hts hown hnm hK hN hl hA0 hM hS hA h
  rw [← hA0]
  have hW : ∀ w ∈ zws, w.before args s = true := fun w hw => hts w (List.mem_cons_of_mem _ hw)
  have hl : zL ls 3 [(0, .ref a0), (1, .ref a1)] := hl
  generalize hQ : MQ below (va_Qi post (zB ca D zcl (ztys ca) A) A) args s 0 0 A = Q
  have b_start : ∀ (M : zM) (H : Heap) (locs : List Loc) (ls : Array Slot) (a0 : Nat) (a1 : Nat), zL ls 3 [(0, .ref a0), (1, .ref a1)] → zW ca D zcl A M H → va_S A s.heap H locs → w_T_hasRoomFor M a0 a1 post → W p l e rm_T_hasRoomFor s m args below meth c H locs 0 0 Q (F0 m 0 ls []) := by
    intro M H locs ls a0 a1 hl hM hS h
    unfold w_T_hasRoomFor at h
    refine lv_aload_n hx hb d_T_hasRoomFor_0 rfl (hl.at 0 rfl) ?_
    obtain ⟨t1, h⟩ := h
    refine z_cti (mc := 0) (ms := 0) (va_runV (As := []) (rest := []) ⟨hx, hb, hml, hown, hW⟩ (c_T_liveCount l ca D M H.size a0 _) (cw_T_liveCount hW k_393 ⟨by decide, by decide⟩) (zPre_V hK hN hM h t1 (by decide) rfl) rfl rfl hl.1.1 rfl (lv_room (Nat.le_of_ble_eq_true rfl)) d_T_hasRoomFor_1 ⟨by decide, by decide⟩) hM hS hA (fun r2 M3 H locs h hM hS => ?_)
    refine lv_iconst (v := (5 : Int32)) hx hb d_T_hasRoomFor_4 (by decide) ?_
    refine lv_icmp_ge (tgt := 10) hx hb d_T_hasRoomFor_5 rfl (fun c4 => ?_) (fun c4 => ?_)
    · replace h := h.1 c4
      refine lv_aload_n hx hb d_T_hasRoomFor_10 rfl (hl.at 0 rfl) ?_
      obtain ⟨t5, h⟩ := h
      refine z_getI hx hb hW in_7 hown hK hM t5 (by decide) rfl 4 (by decide) rfl (hW _ k_60) rfl d_T_hasRoomFor_11 ?_
      refine lv_iconst (v := (5 : Int32)) hx hb d_T_hasRoomFor_14 (by decide) ?_
      refine lv_isub hx hb d_T_hasRoomFor_15 ?_
      refine z_istore_n hx hb d_T_hasRoomFor_16 rfl hl (by decide) rfl (fun ls hl => ?_)
      have hl : zL ls 3 [(2, .int ((zI M3 a0 4) - (5 : Int32))), (0, .ref a0), (1, .ref a1)] := hl
      refine lv_iload_n hx hb d_T_hasRoomFor_17 rfl (hl.at 0 rfl) ?_
      refine lv_aload_n hx hb d_T_hasRoomFor_18 rfl (hl.at 1 rfl) ?_
      refine z_getI hx hb hW in_7 hown hK hM t5 (by decide) rfl 5 (by decide) rfl (hW _ k_62) rfl d_T_hasRoomFor_19 ?_
      refine lv_icmp_ge (tgt := 45) hx hb d_T_hasRoomFor_22 rfl (fun c6 => ?_) (fun c6 => ?_)
      · replace h := h.1 c6
        refine lv_iconst (v := (0 : Int32)) hx hb d_T_hasRoomFor_45 (by decide) ?_
        refine W.widen (k := 0) (n := 0) (by decide) (by decide) ?_
        rw [← hQ]
        exact z_zret hx hb hr hlk rfl hK hM hS h d_T_hasRoomFor_46
      · replace h := h.2 c6
        refine lv_aload_n hx hb d_T_hasRoomFor_25 rfl (hl.at 1 rfl) ?_
        refine lv_iload_n hx hb d_T_hasRoomFor_26 rfl (hl.at 0 rfl) ?_
        refine z_cti (mc := 0) (ms := 0) (va_runV (As := [.int ((zI M3 a0 4) - (5 : Int32))]) (rest := []) ⟨hx, hb, hml, hown, hW⟩ (c_T_referencesTo l ca D M3 H.size a0 ((zI M3 a0 4) - (5 : Int32)) _) (cw_T_referencesTo hW k_424 ⟨by decide, by decide⟩) (zPre_V hK hN hM h t5 (by decide) rfl) rfl rfl hl.1.1 rfl (lv_room (Nat.le_of_ble_eq_true rfl)) d_T_hasRoomFor_27 ⟨by decide, by decide⟩) hM hS hA (fun r7 M8 H locs h hM hS => ?_)
        refine lv_if_ne (tgt := 45) hx hb d_T_hasRoomFor_30 rfl (fun c9 => ?_) (fun c9 => ?_)
        · replace h := h.2 c9
          refine lv_iconst (v := (0 : Int32)) hx hb d_T_hasRoomFor_45 (by decide) ?_
          refine W.widen (k := 0) (n := 0) (by decide) (by decide) ?_
          rw [← hQ]
          exact z_zret hx hb hr hlk rfl hK hM hS h d_T_hasRoomFor_46
        · replace h := h.1 c9
          refine lv_aload_n hx hb d_T_hasRoomFor_33 rfl (hl.at 2 rfl) ?_
          refine lv_iload_n hx hb d_T_hasRoomFor_34 rfl (hl.at 0 rfl) ?_
          obtain ⟨t10, h⟩ := h
          refine z_cti (mc := 0) (ms := 0) (va_runV (As := [.int ((zI M3 a0 4) - (5 : Int32))]) (rest := []) ⟨hx, hb, hml, hown, hW⟩ (c_A_refersTo l ca D M8 H.size a1 ((zI M3 a0 4) - (5 : Int32)) _) (cw_A_refersTo hW k_428 ⟨by decide, by decide⟩) (zPre_V hK hN hM h t10 (by decide) rfl) rfl rfl hl.1.1 rfl (lv_room (Nat.le_of_ble_eq_true rfl)) d_T_hasRoomFor_35 ⟨by decide, by decide⟩) hM hS hA (fun r11 M12 H locs h hM hS => ?_)
          refine lv_if_ne (tgt := 45) hx hb d_T_hasRoomFor_38 rfl (fun c13 => ?_) (fun c13 => ?_)
          · replace h := h.2 c13
            refine lv_iconst (v := (0 : Int32)) hx hb d_T_hasRoomFor_45 (by decide) ?_
            refine W.widen (k := 0) (n := 0) (by decide) (by decide) ?_
            rw [← hQ]
            exact z_zret hx hb hr hlk rfl hK hM hS h d_T_hasRoomFor_46
          · replace h := h.1 c13
            refine lv_iconst (v := (1 : Int32)) hx hb d_T_hasRoomFor_41 (by decide) ?_
            refine lv_goto (tgt := 46) hx hb d_T_hasRoomFor_42 rfl ?_
            refine W.widen (k := 0) (n := 0) (by decide) (by decide) ?_
            rw [← hQ]
            exact z_zret hx hb hr hlk rfl hK hM hS h d_T_hasRoomFor_46
    · replace h := h.2 c4
      refine lv_iconst (v := (1 : Int32)) hx hb d_T_hasRoomFor_8 (by decide) ?_
      refine W.widen (k := 0) (n := 0) (by decide) (by decide) ?_
      rw [← hQ]
      exact z_zret hx hb hr hlk rfl hK hM hS h d_T_hasRoomFor_9
  exact b_start M s.heap [] ls a0 a1 hl hM hS h
set_option maxHeartbeats 4000000 in
set_option maxRecDepth 100000 in
theorem c_T_makeEntry (l : Launch) (ca : Nat → ClassId) (D : va_G) (M : zM) (sz : Nat) (a0 : Nat) (x1 : Int32) (x2 : Int32) (post : Int32 → zM → Prop) : Met l y_T_makeEntry (Cond.code y_T_makeEntry prog_9_method_13_code 4 (some .int) :: zws) rm_T_makeEntry (zPre ca D zcl (ztys ca) [.ref a0, .int x1, .int x2] M sz (w_T_makeEntry M a0 x1 x2 post)) (va_Qi post (zB ca D zcl (ztys ca) (zA M sz)) (zA M sz)) 0 0 (zA M sz) := by
  refine z_met (cc := prog_9_method_13_code) (maxL := 4) (ret := (some .int)) (plainFor_of_name (by decide)) rfl (by simp [Value.category]) (Nat.le_of_ble_eq_true rfl) ?_
  intro p e s m args below meth c ls A hx hb hr hlk hml hts hown hnm hK hN hl hA0 hM hS hA h
  rw [← hA0]
  have hW : ∀ w ∈ zws, w.before args s = true := fun w hw => hts w (List.mem_cons_of_mem _ hw)
  have hl : zL ls 4 [(0, .ref a0), (1, .int x1), (2, .int x2)] := hl
  generalize hQ : MQ below (va_Qi post (zB ca D zcl (ztys ca) A) A) args s 0 0 A = Q
  have b_start : ∀ (M : zM) (H : Heap) (locs : List Loc) (ls : Array Slot) (a0 : Nat) (x1 : Int32) (x2 : Int32), zL ls 4 [(0, .ref a0), (1, .int x1), (2, .int x2)] → zW ca D zcl A M H → va_S A s.heap H locs → w_T_makeEntry M a0 x1 x2 post → W p l e rm_T_makeEntry s m args below meth c H locs 0 0 Q (F0 m 0 ls []) := by
    intro M H locs ls a0 x1 x2 hl hM hS h
    unfold w_T_makeEntry at h
    refine lv_aload_n hx hb d_T_makeEntry_0 rfl (hl.at 0 rfl) ?_
    obtain ⟨t1, h⟩ := h
    refine z_getI hx hb hW in_7 hown hK hM t1 (by decide) rfl 4 (by decide) rfl (hW _ k_60) rfl d_T_makeEntry_1 ?_
    refine z_istore_n hx hb d_T_makeEntry_4 rfl hl (by decide) rfl (fun ls hl => ?_)
    have hl : zL ls 4 [(3, .int (zI M a0 4)), (0, .ref a0), (1, .int x1), (2, .int x2)] := hl
    refine lv_aload_n hx hb d_T_makeEntry_5 rfl (hl.at 1 rfl) ?_
    refine z_getR hx hb hW in_7 hown hK hM t1 (by decide) rfl 0 (by decide) rfl (hW _ k_56) rfl d_T_makeEntry_6 ?_
    refine lv_iload_n hx hb d_T_makeEntry_9 rfl (hl.at 0 rfl) ?_
    refine lv_iconst (v := (5 : Int32)) hx hb d_T_makeEntry_10 (by decide) ?_
    refine z_cti (mc := 0) (ms := 0) (va_runS (As := [.int (zI M a0 4), .int (5 : Int32)]) (rest := [va_rf (zR M a0 0)]) ⟨hx, hb, hml, hown, hW⟩ (c_M_floorMod l ca D M H.size (zI M a0 4) (5 : Int32) _) (cw_M_floorMod hW k_404 ⟨by decide, by decide⟩) (zPre_S hK hN hM h) rfl rfl hl.1.1 rfl (lv_room (Nat.le_trans (zc_cons (z_cat _) (zc_nil)) (by decide))) d_T_makeEntry_11 ⟨by decide, by decide⟩) hM hS hA (fun r2 M3 H locs h hM hS => ?_)
    refine lv_iload_n hx hb d_T_makeEntry_14 rfl (hl.at 2 rfl) ?_
    obtain ⟨b4, hb5, h⟩ := h
    rw [hb5]
    obtain ⟨n7, t6, h⟩ := h
    obtain ⟨i8, h⟩ := h
    refine z_iast hx hb hK hM hS t6 0 rfl i8 d_T_makeEntry_15 (fun H locs hM hS => ?_)
    obtain ⟨M9, e10⟩ : ∃ z, z = zwI M3 b4 r2.toNatClampNeg x1 := ⟨_, rfl⟩
    replace h := h M9 e10
    rw [← e10] at hM
    refine lv_aload_n hx hb d_T_makeEntry_16 rfl (hl.at 1 rfl) ?_
    obtain ⟨t11, h⟩ := h
    refine z_getR hx hb hW in_7 hown hK hM t11 (by decide) rfl 1 (by decide) rfl (hW _ k_57) rfl d_T_makeEntry_17 ?_
    refine lv_iload_n hx hb d_T_makeEntry_20 rfl (hl.at 0 rfl) ?_
    refine lv_iconst (v := (5 : Int32)) hx hb d_T_makeEntry_21 (by decide) ?_
    refine z_cti (mc := 0) (ms := 0) (va_runS (As := [.int (zI M a0 4), .int (5 : Int32)]) (rest := [va_rf (zR M9 a0 1)]) ⟨hx, hb, hml, hown, hW⟩ (c_M_floorMod l ca D M9 H.size (zI M a0 4) (5 : Int32) _) (cw_M_floorMod hW k_404 ⟨by decide, by decide⟩) (zPre_S hK hN hM h) rfl rfl hl.1.1 rfl (lv_room (Nat.le_trans (zc_cons (z_cat _) (zc_nil)) (by decide))) d_T_makeEntry_22 ⟨by decide, by decide⟩) hM hS hA (fun r12 M13 H locs h hM hS => ?_)
    refine lv_iload_n hx hb d_T_makeEntry_25 rfl (hl.at 3 rfl) ?_
    obtain ⟨b14, hb15, h⟩ := h
    rw [hb15]
    obtain ⟨n17, t16, h⟩ := h
    obtain ⟨i18, h⟩ := h
    refine z_iast hx hb hK hM hS t16 0 rfl i18 d_T_makeEntry_26 (fun H locs hM hS => ?_)
    obtain ⟨M19, e20⟩ : ∃ z, z = zwI M13 b14 r12.toNatClampNeg x2 := ⟨_, rfl⟩
    replace h := h M19 e20
    rw [← e20] at hM
    refine lv_aload_n hx hb d_T_makeEntry_27 rfl (hl.at 1 rfl) ?_
    refine lv_dup hx hb d_T_makeEntry_28 rfl ?_
    obtain ⟨t21, h⟩ := h
    refine z_getI hx hb hW in_7 hown hK hM t21 (by decide) rfl 4 (by decide) rfl (hW _ k_60) rfl d_T_makeEntry_29 ?_
    refine lv_iconst (v := (1 : Int32)) hx hb d_T_makeEntry_32 (by decide) ?_
    refine lv_iadd hx hb d_T_makeEntry_33 ?_
    refine z_putI hx hb hW in_7 ty_7 tyok_7 nm_7 hown hK hM hS t21 (by decide) rfl 4 (by decide) rfl (hW _ k_60) rfl (Or.inl rfl) rfl rfl d_T_makeEntry_34 (fun H locs hM hS => ?_)
    obtain ⟨M22, e23⟩ : ∃ z, z = zwI M19 a0 4 ((zI M19 a0 4) + (1 : Int32)) := ⟨_, rfl⟩
    replace h := h M22 e23
    rw [← e23] at hM
    refine lv_iload_n hx hb d_T_makeEntry_37 rfl (hl.at 0 rfl) ?_
    refine W.widen (k := 0) (n := 0) (by decide) (by decide) ?_
    rw [← hQ]
    exact z_iret hx hb hr hlk hK hM hS h d_T_makeEntry_38
  exact b_start M s.heap [] ls a0 x1 x2 hl hM hS h
set_option maxHeartbeats 4000000 in
set_option maxRecDepth 100000 in
theorem c_T_putDown (l : Launch) (ca : Nat → ClassId) (D : va_G) (M : zM) (sz : Nat) (a0 : Nat) (a1 : Nat) (x2 : Int32) (x3 : Int32) (post : zM → Prop) : Met l y_T_putDown (Cond.code y_T_putDown prog_9_method_5_code 6 none :: zws) rm_T_putDown (zPre ca D zcl (ztys ca) [.ref a0, .ref a1, .int x2, .int x3] M sz (w_T_putDown M a0 a1 x2 x3 post)) (va_Qv post (zB ca D zcl (ztys ca) (zA M sz)) (zA M sz)) 0 0 (zA M sz) := by
  refine z_met (cc := prog_9_method_5_code) (maxL := 6) (ret := none) (plainFor_of_name (by decide)) rfl (by simp [Value.category]) (Nat.le_of_ble_eq_true rfl) ?_
  intro p e s m args below meth c ls A hx hb hr hlk hml hts hown hnm hK hN hl hA0 hM hS hA h
  rw [← hA0]
  have hW : ∀ w ∈ zws, w.before args s = true := fun w hw => hts w (List.mem_cons_of_mem _ hw)
  have hl : zL ls 6 [(0, .ref a0), (1, .ref a1), (2, .int x2), (3, .int x3)] := hl
  generalize hQ : MQ below (va_Qv post (zB ca D zcl (ztys ca) A) A) args s 0 0 A = Q
  have b_97 : ∀ (M : zM) (H : Heap) (locs : List Loc) (ls : Array Slot) (a0 : Nat) (a1 : Nat) (x2 : Int32) (x3 : Int32) (x4 : Int32) (x5 : Int32), zL ls 6 [(0, .ref a0), (1, .ref a1), (2, .int x2), (3, .int x3), (4, .int x4), (5, .int x5)] → zW ca D zcl A M H → va_S A s.heap H locs → w_T_putDown_97 post M a0 a1 x2 x3 x4 x5 → W p l e rm_T_putDown s m args below meth c H locs 0 0 Q (F0 m 97 ls []) := by
    intro M H locs ls a0 a1 x2 x3 x4 x5 hl hM hS h
    unfold w_T_putDown_97 at h
    refine lv_aload_n hx hb d_T_putDown_97 rfl (hl.at 0 rfl) ?_
    refine lv_dup hx hb d_T_putDown_98 rfl ?_
    obtain ⟨t9, h⟩ := h
    refine z_getI hx hb hW in_7 hown hK hM t9 (by decide) rfl 6 (by decide) rfl (hW _ k_64) rfl d_T_putDown_99 ?_
    refine lv_iconst (v := (1 : Int32)) hx hb d_T_putDown_102 (by decide) ?_
    refine lv_iadd hx hb d_T_putDown_103 ?_
    refine z_putI hx hb hW in_7 ty_7 tyok_7 nm_7 hown hK hM hS t9 (by decide) rfl 6 (by decide) rfl (hW _ k_64) rfl (Or.inl rfl) rfl rfl d_T_putDown_104 (fun H locs hM hS => ?_)
    obtain ⟨M10, e11⟩ : ∃ z, z = zwI M a0 6 ((zI M a0 6) + (1 : Int32)) := ⟨_, rfl⟩
    replace h := h M10 e11
    rw [← e11] at hM
    rw [← hQ]
    exact z_vret hx hb hr hlk hK hM hS h d_T_putDown_107
  have b_24 : ∀ (M : zM) (H : Heap) (locs : List Loc) (ls : Array Slot) (a0 : Nat) (a1 : Nat) (x2 : Int32) (x3 : Int32) (u0 : Int32), zL ls 6 [(0, .ref a0), (1, .ref a1), (2, .int x2), (3, .int x3)] → zW ca D zcl A M H → va_S A s.heap H locs → w_T_putDown_24 post M a0 a1 x2 x3 u0 → W p l e rm_T_putDown s m args below meth c H locs 0 0 Q (F0 m 24 ls [.int u0]) := by
    intro M H locs ls a0 a1 x2 x3 u0 hl hM hS h
    unfold w_T_putDown_24 at h
    refine z_istore hx hb d_T_putDown_24 hl (by decide) rfl (fun ls hl => ?_)
    have hl : zL ls 6 [(4, .int u0), (0, .ref a0), (1, .ref a1), (2, .int x2), (3, .int x3)] := hl
    refine lv_aload_n hx hb d_T_putDown_26 rfl (hl.at 1 rfl) ?_
    refine lv_iload_n hx hb d_T_putDown_27 rfl (hl.at 3 rfl) ?_
    refine lv_iload_n hx hb d_T_putDown_28 rfl (hl.at 4 rfl) ?_
    obtain ⟨t4, h⟩ := h
    refine z_cti (mc := 0) (ms := 0) (va_runV (As := [.int x2, .int x3]) (rest := []) ⟨hx, hb, hml, hown, hW⟩ (c_T_findLive l ca D M H.size a0 x2 x3 _) (cw_T_findLive hW k_389 ⟨by decide, by decide⟩) (zPre_V hK hN hM h t4 (by decide) rfl) rfl rfl hl.1.1 rfl (lv_room (Nat.le_of_ble_eq_true rfl)) d_T_putDown_29 ⟨by decide, by decide⟩) hM hS hA (fun r5 M6 H locs h hM hS => ?_)
    refine z_istore hx hb d_T_putDown_32 hl (by decide) rfl (fun ls hl => ?_)
    have hl : zL ls 6 [(5, .int r5), (4, .int u0), (0, .ref a0), (1, .ref a1), (2, .int x2), (3, .int x3)] := hl
    refine lv_iload hx hb d_T_putDown_34 (hl.at 0 rfl) ?_
    refine lv_iconst (v := (-1 : Int32)) hx hb d_T_putDown_36 (by decide) ?_
    refine lv_icmp_eq (tgt := 64) hx hb d_T_putDown_37 rfl (fun c7 => ?_) (fun c7 => ?_)
    · replace h := h.1 c7
      refine lv_iload hx hb d_T_putDown_64 (hl.at 0 rfl) ?_
      refine lv_iconst (v := (-1 : Int32)) hx hb d_T_putDown_66 (by decide) ?_
      refine lv_icmp_ne (tgt := 97) hx hb d_T_putDown_67 rfl (fun c8 => ?_) (fun c8 => ?_)
      · replace h := h.2 c8
        refine W.widen (k := 0) (n := 0) (by decide) (by decide) ?_
        exact b_97 M6 H locs ls a0 a1 x2 x3 u0 r5 (hl.sub [2, 3, 4, 5, 1, 0] rfl) hM hS h
      · replace h := h.1 c8
        refine lv_iload hx hb d_T_putDown_70 (hl.at 1 rfl) ?_
        refine lv_if_eq (tgt := 97) hx hb d_T_putDown_72 rfl (fun c12 => ?_) (fun c12 => ?_)
        · replace h := h.1 c12
          refine W.widen (k := 0) (n := 0) (by decide) (by decide) ?_
          exact b_97 M6 H locs ls a0 a1 x2 x3 u0 r5 (hl.sub [2, 3, 4, 5, 1, 0] rfl) hM hS h
        · replace h := h.2 c12
          refine lv_aload_n hx hb d_T_putDown_75 rfl (hl.at 2 rfl) ?_
          refine lv_aload_n hx hb d_T_putDown_76 rfl (hl.at 3 rfl) ?_
          obtain ⟨t13, h⟩ := h
          refine z_cti (mc := 0) (ms := 0) (va_runV (As := [.ref a1]) (rest := []) ⟨hx, hb, hml, hown, hW⟩ (c_T_hasRoomFor l ca D M6 H.size a0 a1 _) (cw_T_hasRoomFor hW k_420 ⟨by decide, by decide⟩) (zPre_V hK hN hM h t13 (by decide) rfl) rfl rfl hl.1.1 rfl (lv_room (Nat.le_of_ble_eq_true rfl)) d_T_putDown_77 ⟨by decide, by decide⟩) hM hS hA (fun r14 M15 H locs h hM hS => ?_)
          refine lv_if_eq (tgt := 97) hx hb d_T_putDown_80 rfl (fun c16 => ?_) (fun c16 => ?_)
          · replace h := h.1 c16
            refine W.widen (k := 0) (n := 0) (by decide) (by decide) ?_
            exact b_97 M15 H locs ls a0 a1 x2 x3 u0 r5 (hl.sub [2, 3, 4, 5, 1, 0] rfl) hM hS h
          · replace h := h.2 c16
            refine lv_aload_n hx hb d_T_putDown_83 rfl (hl.at 2 rfl) ?_
            refine lv_aload_n hx hb d_T_putDown_84 rfl (hl.at 3 rfl) ?_
            refine lv_aload_n hx hb d_T_putDown_85 rfl (hl.at 2 rfl) ?_
            refine lv_iload_n hx hb d_T_putDown_86 rfl (hl.at 4 rfl) ?_
            refine lv_iload_n hx hb d_T_putDown_87 rfl (hl.at 5 rfl) ?_
            obtain ⟨t17, h⟩ := h
            refine z_cti (mc := 0) (ms := 0) (va_runV (As := [.int x2, .int x3]) (rest := [.ref a1, .ref a0]) ⟨hx, hb, hml, hown, hW⟩ (c_T_makeEntry l ca D M15 H.size a0 x2 x3 _) (cw_T_makeEntry hW k_432 ⟨by decide, by decide⟩) (zPre_V hK hN hM h t17 (by decide) rfl) rfl rfl hl.1.1 rfl (lv_room (Nat.le_of_ble_eq_true rfl)) d_T_putDown_88 ⟨by decide, by decide⟩) hM hS hA (fun r18 M19 H locs h hM hS => ?_)
            obtain ⟨t20, h⟩ := h
            refine z_ctv (mc := 0) (ms := 0) (va_runV (As := [.ref a1, .int r18]) (rest := []) ⟨hx, hb, hml, hown, hW⟩ (c_T_refer l ca D M19 H.size a0 a1 r18 _) (cw_T_refer hW k_411 ⟨by decide, by decide⟩) (zPre_V hK hN hM h t20 (by decide) rfl) rfl rfl hl.1.1 rfl (lv_room (Nat.le_of_ble_eq_true rfl)) d_T_putDown_91 ⟨by decide, by decide⟩) hM hS hA (fun M21 H locs h hM hS => ?_)
            refine lv_goto (tgt := 107) hx hb d_T_putDown_94 rfl ?_
            refine W.widen (k := 0) (n := 0) (by decide) (by decide) ?_
            rw [← hQ]
            exact z_vret hx hb hr hlk hK hM hS h d_T_putDown_107
    · replace h := h.2 c7
      refine lv_iload hx hb d_T_putDown_40 (hl.at 0 rfl) ?_
      refine lv_aload_n hx hb d_T_putDown_42 rfl (hl.at 2 rfl) ?_
      obtain ⟨t22, h⟩ := h
      refine z_getI hx hb hW in_7 hown hK hM t22 (by decide) rfl 5 (by decide) rfl (hW _ k_62) rfl d_T_putDown_43 ?_
      refine lv_icmp_lt (tgt := 54) hx hb d_T_putDown_46 rfl (fun c23 => ?_) (fun c23 => ?_)
      · replace h := h.1 c23
        refine lv_aload_n hx hb d_T_putDown_54 rfl (hl.at 2 rfl) ?_
        refine lv_aload_n hx hb d_T_putDown_55 rfl (hl.at 3 rfl) ?_
        refine lv_iload hx hb d_T_putDown_56 (hl.at 0 rfl) ?_
        refine z_ctv (mc := 0) (ms := 0) (va_runV (As := [.ref a1, .int r5]) (rest := []) ⟨hx, hb, hml, hown, hW⟩ (c_T_refer l ca D M6 H.size a0 a1 r5 _) (cw_T_refer hW k_411 ⟨by decide, by decide⟩) (zPre_V hK hN hM h t22 (by decide) rfl) rfl rfl hl.1.1 rfl (lv_room (Nat.le_of_ble_eq_true rfl)) d_T_putDown_58 ⟨by decide, by decide⟩) hM hS hA (fun M24 H locs h hM hS => ?_)
        refine lv_goto (tgt := 107) hx hb d_T_putDown_61 rfl ?_
        refine W.widen (k := 0) (n := 0) (by decide) (by decide) ?_
        rw [← hQ]
        exact z_vret hx hb hr hlk hK hM hS h d_T_putDown_107
      · replace h := h.2 c23
        refine lv_iload hx hb d_T_putDown_49 (hl.at 1 rfl) ?_
        refine lv_if_eq (tgt := 64) hx hb d_T_putDown_51 rfl (fun c25 => ?_) (fun c25 => ?_)
        · replace h := h.1 c25
          refine lv_iload hx hb d_T_putDown_64 (hl.at 0 rfl) ?_
          refine lv_iconst (v := (-1 : Int32)) hx hb d_T_putDown_66 (by decide) ?_
          refine lv_icmp_ne (tgt := 97) hx hb d_T_putDown_67 rfl (fun c26 => ?_) (fun c26 => ?_)
          · replace h := h.2 c26
            refine W.widen (k := 0) (n := 0) (by decide) (by decide) ?_
            exact b_97 M6 H locs ls a0 a1 x2 x3 u0 r5 (hl.sub [2, 3, 4, 5, 1, 0] rfl) hM hS h
          · replace h := h.1 c26
            refine lv_iload hx hb d_T_putDown_70 (hl.at 1 rfl) ?_
            refine lv_if_eq (tgt := 97) hx hb d_T_putDown_72 rfl (fun c27 => ?_) (fun c27 => ?_)
            · replace h := h.1 c27
              refine W.widen (k := 0) (n := 0) (by decide) (by decide) ?_
              exact b_97 M6 H locs ls a0 a1 x2 x3 u0 r5 (hl.sub [2, 3, 4, 5, 1, 0] rfl) hM hS h
            · replace h := h.2 c27
              refine lv_aload_n hx hb d_T_putDown_75 rfl (hl.at 2 rfl) ?_
              refine lv_aload_n hx hb d_T_putDown_76 rfl (hl.at 3 rfl) ?_
              refine z_cti (mc := 0) (ms := 0) (va_runV (As := [.ref a1]) (rest := []) ⟨hx, hb, hml, hown, hW⟩ (c_T_hasRoomFor l ca D M6 H.size a0 a1 _) (cw_T_hasRoomFor hW k_420 ⟨by decide, by decide⟩) (zPre_V hK hN hM h t22 (by decide) rfl) rfl rfl hl.1.1 rfl (lv_room (Nat.le_of_ble_eq_true rfl)) d_T_putDown_77 ⟨by decide, by decide⟩) hM hS hA (fun r28 M29 H locs h hM hS => ?_)
              refine lv_if_eq (tgt := 97) hx hb d_T_putDown_80 rfl (fun c30 => ?_) (fun c30 => ?_)
              · replace h := h.1 c30
                refine W.widen (k := 0) (n := 0) (by decide) (by decide) ?_
                exact b_97 M29 H locs ls a0 a1 x2 x3 u0 r5 (hl.sub [2, 3, 4, 5, 1, 0] rfl) hM hS h
              · replace h := h.2 c30
                refine lv_aload_n hx hb d_T_putDown_83 rfl (hl.at 2 rfl) ?_
                refine lv_aload_n hx hb d_T_putDown_84 rfl (hl.at 3 rfl) ?_
                refine lv_aload_n hx hb d_T_putDown_85 rfl (hl.at 2 rfl) ?_
                refine lv_iload_n hx hb d_T_putDown_86 rfl (hl.at 4 rfl) ?_
                refine lv_iload_n hx hb d_T_putDown_87 rfl (hl.at 5 rfl) ?_
                obtain ⟨t31, h⟩ := h
                refine z_cti (mc := 0) (ms := 0) (va_runV (As := [.int x2, .int x3]) (rest := [.ref a1, .ref a0]) ⟨hx, hb, hml, hown, hW⟩ (c_T_makeEntry l ca D M29 H.size a0 x2 x3 _) (cw_T_makeEntry hW k_432 ⟨by decide, by decide⟩) (zPre_V hK hN hM h t31 (by decide) rfl) rfl rfl hl.1.1 rfl (lv_room (Nat.le_of_ble_eq_true rfl)) d_T_putDown_88 ⟨by decide, by decide⟩) hM hS hA (fun r32 M33 H locs h hM hS => ?_)
                obtain ⟨t34, h⟩ := h
                refine z_ctv (mc := 0) (ms := 0) (va_runV (As := [.ref a1, .int r32]) (rest := []) ⟨hx, hb, hml, hown, hW⟩ (c_T_refer l ca D M33 H.size a0 a1 r32 _) (cw_T_refer hW k_411 ⟨by decide, by decide⟩) (zPre_V hK hN hM h t34 (by decide) rfl) rfl rfl hl.1.1 rfl (lv_room (Nat.le_of_ble_eq_true rfl)) d_T_putDown_91 ⟨by decide, by decide⟩) hM hS hA (fun M35 H locs h hM hS => ?_)
                refine lv_goto (tgt := 107) hx hb d_T_putDown_94 rfl ?_
                refine W.widen (k := 0) (n := 0) (by decide) (by decide) ?_
                rw [← hQ]
                exact z_vret hx hb hr hlk hK hM hS h d_T_putDown_107
        · replace h := h.2 c25
          refine lv_aload_n hx hb d_T_putDown_54 rfl (hl.at 2 rfl) ?_
          refine lv_aload_n hx hb d_T_putDown_55 rfl (hl.at 3 rfl) ?_
          refine lv_iload hx hb d_T_putDown_56 (hl.at 0 rfl) ?_
          refine z_ctv (mc := 0) (ms := 0) (va_runV (As := [.ref a1, .int r5]) (rest := []) ⟨hx, hb, hml, hown, hW⟩ (c_T_refer l ca D M6 H.size a0 a1 r5 _) (cw_T_refer hW k_411 ⟨by decide, by decide⟩) (zPre_V hK hN hM h t22 (by decide) rfl) rfl rfl hl.1.1 rfl (lv_room (Nat.le_of_ble_eq_true rfl)) d_T_putDown_58 ⟨by decide, by decide⟩) hM hS hA (fun M36 H locs h hM hS => ?_)
          refine lv_goto (tgt := 107) hx hb d_T_putDown_61 rfl ?_
          refine W.widen (k := 0) (n := 0) (by decide) (by decide) ?_
          rw [← hQ]
          exact z_vret hx hb hr hlk hK hM hS h d_T_putDown_107
  have b_start : ∀ (M : zM) (H : Heap) (locs : List Loc) (ls : Array Slot) (a0 : Nat) (a1 : Nat) (x2 : Int32) (x3 : Int32), zL ls 6 [(0, .ref a0), (1, .ref a1), (2, .int x2), (3, .int x3)] → zW ca D zcl A M H → va_S A s.heap H locs → w_T_putDown M a0 a1 x2 x3 post → W p l e rm_T_putDown s m args below meth c H locs 0 0 Q (F0 m 0 ls []) := by
    intro M H locs ls a0 a1 x2 x3 hl hM hS h
    unfold w_T_putDown at h
    refine lv_aload_n hx hb d_T_putDown_0 rfl (hl.at 1 rfl) ?_
    obtain ⟨t1, h⟩ := h
    refine z_getI hx hb hW in_0 hown hK hM t1 (by decide) rfl 3 (by decide) rfl (hW _ k_342) rfl d_T_putDown_1 ?_
    refine lv_aload_n hx hb d_T_putDown_4 rfl (hl.at 0 rfl) ?_
    obtain ⟨t2, h⟩ := h
    refine z_getI hx hb hW in_7 hown hK hM t2 (by decide) rfl 5 (by decide) rfl (hW _ k_62) rfl d_T_putDown_5 ?_
    refine lv_icmp_gt (tgt := 19) hx hb d_T_putDown_8 rfl (fun c3 => ?_) (fun c3 => ?_)
    · replace h := h.1 c3
      refine lv_iconst (v := (1 : Int32)) hx hb d_T_putDown_19 (by decide) ?_
      refine lv_goto (tgt := 24) hx hb d_T_putDown_20 rfl ?_
      exact b_24 M H locs ls a0 a1 x2 x3 (1 : Int32) (hl.sub [0, 1, 2, 3] rfl) hM hS h
    · replace h := h.2 c3
      refine lv_aload_n hx hb d_T_putDown_11 rfl (hl.at 0 rfl) ?_
      refine z_cti (mc := 0) (ms := 0) (va_runV (As := []) (rest := []) ⟨hx, hb, hml, hown, hW⟩ (c_T_atRisk l ca D M H.size a0 _) (cw_T_atRisk hW k_381 ⟨by decide, by decide⟩) (zPre_V hK hN hM h t2 (by decide) rfl) rfl rfl hl.1.1 rfl (lv_room (Nat.le_of_ble_eq_true rfl)) d_T_putDown_12 ⟨by decide, by decide⟩) hM hS hA (fun r37 M38 H locs h hM hS => ?_)
      refine lv_iconst (v := (2 : Int32)) hx hb d_T_putDown_15 (by decide) ?_
      refine lv_icmp_ge (tgt := 23) hx hb d_T_putDown_16 rfl (fun c39 => ?_) (fun c39 => ?_)
      · replace h := h.1 c39
        refine lv_iconst (v := (0 : Int32)) hx hb d_T_putDown_23 (by decide) ?_
        refine W.widen (k := 0) (n := 0) (by decide) (by decide) ?_
        exact b_24 M38 H locs ls a0 a1 x2 x3 (0 : Int32) (hl.sub [0, 1, 2, 3] rfl) hM hS h
      · replace h := h.2 c39
        refine lv_iconst (v := (1 : Int32)) hx hb d_T_putDown_19 (by decide) ?_
        refine lv_goto (tgt := 24) hx hb d_T_putDown_20 rfl ?_
        refine W.widen (k := 0) (n := 0) (by decide) (by decide) ?_
        exact b_24 M38 H locs ls a0 a1 x2 x3 (1 : Int32) (hl.sub [0, 1, 2, 3] rfl) hM hS h
  exact b_start M s.heap [] ls a0 a1 x2 x3 hl hM hS h
set_option maxHeartbeats 4000000 in
set_option maxRecDepth 100000 in
theorem c_S_answerPut (l : Launch) (ca : Nat → ClassId) (D : va_G) (M : zM) (sz : Nat) (a0 : Nat) (a1 : Nat) (a2 : Nat) (post : Option Nat → zM → Prop) : Met l y_S_answerPut (Cond.code y_S_answerPut prog_7_method_7_code 5 (some (.object "TabledOrigin$Answer")) :: zws) rm_S_answerPut (zPre ca D zcl (ztys ca) [.ref a0, .ref a1, .ref a2] M sz (w_S_answerPut M a0 a1 a2 post)) (va_Qq post (zB ca D zcl (ztys ca) (zA M sz)) (zA M sz)) 2 13 (zA M sz) := by
  refine z_met (cc := prog_7_method_7_code) (maxL := 5) (ret := (some (.object "TabledOrigin$Answer"))) (plainFor_of_name (by decide)) rfl (by simp [Value.category]) (Nat.le_of_ble_eq_true rfl) ?_
  intro p e s m args below meth c ls A hx hb hr hlk hml hts hown hnm hK hN hl hA0 hM hS hA h
  rw [← hA0]
  have hW : ∀ w ∈ zws, w.before args s = true := fun w hw => hts w (List.mem_cons_of_mem _ hw)
  have hl : zL ls 5 [(0, .ref a0), (1, .ref a1), (2, .ref a2)] := hl
  generalize hQ : MQ below (va_Qq post (zB ca D zcl (ztys ca) A) A) args s 2 13 A = Q
  have b_46 : ∀ (M : zM) (H : Heap) (locs : List Loc) (ls : Array Slot) (a0 : Nat) (a1 : Nat) (a2 : Nat) (x3 : Int32), zL ls 5 [(0, .ref a0), (1, .ref a1), (2, .ref a2), (3, .int x3)] → zW ca D zcl A M H → va_S A s.heap H locs → w_S_answerPut_46 post M a0 a1 a2 x3 → W p l e rm_S_answerPut s m args below meth c H locs 0 0 Q (F0 m 46 ls []) := by
    intro M H locs ls a0 a1 a2 x3 hl hM hS h
    unfold w_S_answerPut_46 at h
    refine lv_aload_n hx hb d_S_answerPut_46 rfl (hl.at 0 rfl) ?_
    refine lv_aload_n hx hb d_S_answerPut_47 rfl (hl.at 2 rfl) ?_
    refine lv_aload_n hx hb d_S_answerPut_48 rfl (hl.at 1 rfl) ?_
    obtain ⟨t5, h⟩ := h
    refine z_getI hx hb hW in_3 hown hK hM t5 (by decide) rfl 3 (by decide) rfl (hW _ k_251) rfl d_S_answerPut_49 ?_
    refine lv_aload_n hx hb d_S_answerPut_52 rfl (hl.at 1 rfl) ?_
    refine z_getI hx hb hW in_3 hown hK hM t5 (by decide) rfl 4 (by decide) rfl (hW _ k_253) rfl d_S_answerPut_53 ?_
    obtain ⟨t6, h⟩ := h
    refine z_ctv (mc := 0) (ms := 0) (va_runV (As := [.ref a2, .int (zI M a1 3), .int (zI M a1 4)]) (rest := []) ⟨hx, hb, hml, hown, hW⟩ (c_S_write l ca D M H.size a0 a2 (zI M a1 3) (zI M a1 4) _) (cw_S_write hW k_376 ⟨by decide, by decide⟩) (zPre_V hK hN hM h t6 (by decide) rfl) rfl rfl hl.1.1 rfl (lv_room (Nat.le_of_ble_eq_true rfl)) d_S_answerPut_56 ⟨by decide, by decide⟩) hM hS hA (fun M7 H locs h hM hS => ?_)
    refine z_new (ci := 0) hx hb hW in_0 ty_0 tyok_0 hown (hW _ k_328) (hW _ k_329) (hW _ k_11) hK hM hS hA (by decide) rfl df_0 (by decide) (by decide) d_S_answerPut_59 (fun q8 H hq9 hM hS => ?_)
    replace h := h q8 hq9
    obtain ⟨M10, e11⟩ : ∃ z, z = znw M7 q8 (0, 10) := ⟨_, rfl⟩
    replace h := h M10 e11
    rw [← e11] at hM
    have t12 : zT M10 q8 = some (0, 10) := by rw [e11, zT_nw, if_pos rfl]
    refine lv_dup hx hb d_S_answerPut_62 rfl ?_
    refine lv_sipush (v := (200 : Int32)) hx hb d_S_answerPut_63 (by decide) ?_
    refine z_ctv (mc := 1) (ms := 3) (va_runI (As := [.int (200 : Int32)]) (rest := [.ref q8]) ⟨hx, hb, hml, hown, hW⟩ (c_A_init l ca D M10 H.size q8 (200 : Int32) _) (cw_A_init hW k_330 ⟨by decide, by decide⟩) (zPre_S hK hN hM h) rfl rfl hl.1.1 rfl (lv_room (Nat.le_of_ble_eq_true rfl)) d_S_answerPut_66 ⟨by decide, by decide⟩) hM hS hA (fun M13 H locs h hM hS => ?_)
    refine z_astore (x := some q8) hx hb d_S_answerPut_69 hl (by decide) rfl (fun ls hl => ?_)
    have hl : zL ls 5 [(4, .ref q8), (0, .ref a0), (1, .ref a1), (2, .ref a2), (3, .int x3)] := hl
    refine lv_aload_n hx hb d_S_answerPut_71 rfl (hl.at 1 rfl) ?_
    obtain ⟨t14, h⟩ := h
    refine z_getR hx hb hW in_5 hown hK hM t14 (by decide) rfl 1 (by decide) rfl (hW _ k_87) rfl d_S_answerPut_72 ?_
    refine lv_aload hx hb d_S_answerPut_75 (hl.at 0 rfl) ?_
    refine lv_iconst (v := (0 : Int32)) hx hb d_S_answerPut_77 (by decide) ?_
    refine lv_aload_n hx hb d_S_answerPut_78 rfl (hl.at 3 rfl) ?_
    obtain ⟨t15, h⟩ := h
    refine z_getI hx hb hW in_4 hown hK hM t15 (by decide) rfl 1 (by decide) rfl (hW _ k_36) rfl d_S_answerPut_79 ?_
    obtain ⟨b16, hb17, h⟩ := h
    rw [hb17]
    obtain ⟨t18, h⟩ := h
    refine z_ctv (mc := 0) (ms := 0) (va_runV (As := [.ref q8, .int (0 : Int32), .int (zI M13 a2 1)]) (rest := []) ⟨hx, hb, hml, hown, hW⟩ (c_T_putDown l ca D M13 H.size b16 q8 (0 : Int32) (zI M13 a2 1) _) (cw_T_putDown hW k_377 ⟨by decide, by decide⟩) (zPre_V hK hN hM h t18 (by decide) rfl) rfl rfl hl.1.1 rfl (lv_room (Nat.le_of_ble_eq_true rfl)) d_S_answerPut_82 ⟨by decide, by decide⟩) hM hS hA (fun M19 H locs h hM hS => ?_)
    refine lv_aload hx hb d_S_answerPut_85 (hl.at 0 rfl) ?_
    refine W.widen (k := 2) (n := 13) (by decide) (by decide) ?_
    rw [← hQ]
    exact z_aret (v := (some q8)) hx hb hr hlk hK hM hS h d_S_answerPut_87
  have b_start : ∀ (M : zM) (H : Heap) (locs : List Loc) (ls : Array Slot) (a0 : Nat) (a1 : Nat) (a2 : Nat), zL ls 5 [(0, .ref a0), (1, .ref a1), (2, .ref a2)] → zW ca D zcl A M H → va_S A s.heap H locs → w_S_answerPut M a0 a1 a2 post → W p l e rm_S_answerPut s m args below meth c H locs 0 0 Q (F0 m 0 ls []) := by
    intro M H locs ls a0 a1 a2 hl hM hS h
    unfold w_S_answerPut at h
    refine lv_aload_n hx hb d_S_answerPut_0 rfl (hl.at 2 rfl) ?_
    obtain ⟨t1, h⟩ := h
    refine z_getI hx hb hW in_4 hown hK hM t1 (by decide) rfl 0 (by decide) rfl (hW _ k_33) rfl d_S_answerPut_1 ?_
    refine lv_if_eq (tgt := 22) hx hb d_S_answerPut_4 rfl (fun c2 => ?_) (fun c2 => ?_)
    · replace h := h.1 c2
      refine lv_iconst (v := (0 : Int32)) hx hb d_S_answerPut_22 (by decide) ?_
      refine z_istore_n hx hb d_S_answerPut_23 rfl hl (by decide) rfl (fun ls hl => ?_)
      have hl : zL ls 5 [(3, .int (0 : Int32)), (0, .ref a0), (1, .ref a1), (2, .ref a2)] := hl
      refine lv_aload_n hx hb d_S_answerPut_24 rfl (hl.at 2 rfl) ?_
      obtain ⟨t3, h⟩ := h
      refine z_getI hx hb hW in_3 hown hK hM t3 (by decide) rfl 5 (by decide) rfl (hW _ k_256) rfl d_S_answerPut_25 ?_
      refine lv_if_eq (tgt := 46) hx hb d_S_answerPut_28 rfl (fun c4 => ?_) (fun c4 => ?_)
      · replace h := h.1 c4
        exact b_46 M H locs ls a0 a1 a2 (0 : Int32) (hl.sub [1, 2, 3, 0] rfl) hM hS h
      · replace h := h.2 c4
        refine lv_iload_n hx hb d_S_answerPut_31 rfl (hl.at 0 rfl) ?_
        refine lv_if_ne (tgt := 46) hx hb d_S_answerPut_32 rfl (fun c20 => ?_) (fun c20 => ?_)
        · replace h := h.2 c20
          exact b_46 M H locs ls a0 a1 a2 (0 : Int32) (hl.sub [1, 2, 3, 0] rfl) hM hS h
        · replace h := h.1 c20
          refine z_new (ci := 0) hx hb hW in_0 ty_0 tyok_0 hown (hW _ k_328) (hW _ k_329) (hW _ k_11) hK hM hS hA (by decide) rfl df_0 (by decide) (by decide) d_S_answerPut_35 (fun q21 H hq22 hM hS => ?_)
          replace h := h q21 hq22
          obtain ⟨M23, e24⟩ : ∃ z, z = znw M q21 (0, 10) := ⟨_, rfl⟩
          replace h := h M23 e24
          rw [← e24] at hM
          have t25 : zT M23 q21 = some (0, 10) := by rw [e24, zT_nw, if_pos rfl]
          refine lv_dup hx hb d_S_answerPut_38 rfl ?_
          refine lv_sipush (v := (412 : Int32)) hx hb d_S_answerPut_39 (by decide) ?_
          refine z_ctv (mc := 1) (ms := 3) (va_runI (As := [.int (412 : Int32)]) (rest := [.ref q21]) ⟨hx, hb, hml, hown, hW⟩ (c_A_init l ca D M23 H.size q21 (412 : Int32) _) (cw_A_init hW k_330 ⟨by decide, by decide⟩) (zPre_S hK hN hM h) rfl rfl hl.1.1 rfl (lv_room (Nat.le_of_ble_eq_true rfl)) d_S_answerPut_42 ⟨by decide, by decide⟩) hM hS hA (fun M26 H locs h hM hS => ?_)
          refine W.widen (k := 2) (n := 13) (by decide) (by decide) ?_
          rw [← hQ]
          exact z_aret (v := (some q21)) hx hb hr hlk hK hM hS h d_S_answerPut_45
    · replace h := h.2 c2
      refine lv_aload_n hx hb d_S_answerPut_7 rfl (hl.at 2 rfl) ?_
      refine z_getI hx hb hW in_4 hown hK hM t1 (by decide) rfl 1 (by decide) rfl (hW _ k_36) rfl d_S_answerPut_8 ?_
      refine lv_aload_n hx hb d_S_answerPut_11 rfl (hl.at 1 rfl) ?_
      obtain ⟨t27, h⟩ := h
      refine z_getI hx hb hW in_3 hown hK hM t27 (by decide) rfl 5 (by decide) rfl (hW _ k_256) rfl d_S_answerPut_12 ?_
      refine lv_icmp_ne (tgt := 22) hx hb d_S_answerPut_15 rfl (fun c28 => ?_) (fun c28 => ?_)
      · replace h := h.2 c28
        refine lv_iconst (v := (0 : Int32)) hx hb d_S_answerPut_22 (by decide) ?_
        refine z_istore_n hx hb d_S_answerPut_23 rfl hl (by decide) rfl (fun ls hl => ?_)
        have hl : zL ls 5 [(3, .int (0 : Int32)), (0, .ref a0), (1, .ref a1), (2, .ref a2)] := hl
        refine lv_aload_n hx hb d_S_answerPut_24 rfl (hl.at 2 rfl) ?_
        refine z_getI hx hb hW in_3 hown hK hM t27 (by decide) rfl 5 (by decide) rfl (hW _ k_256) rfl d_S_answerPut_25 ?_
        refine lv_if_eq (tgt := 46) hx hb d_S_answerPut_28 rfl (fun c29 => ?_) (fun c29 => ?_)
        · replace h := h.1 c29
          exact b_46 M H locs ls a0 a1 a2 (0 : Int32) (hl.sub [1, 2, 3, 0] rfl) hM hS h
        · replace h := h.2 c29
          refine lv_iload_n hx hb d_S_answerPut_31 rfl (hl.at 0 rfl) ?_
          refine lv_if_ne (tgt := 46) hx hb d_S_answerPut_32 rfl (fun c30 => ?_) (fun c30 => ?_)
          · replace h := h.2 c30
            exact b_46 M H locs ls a0 a1 a2 (0 : Int32) (hl.sub [1, 2, 3, 0] rfl) hM hS h
          · replace h := h.1 c30
            refine z_new (ci := 0) hx hb hW in_0 ty_0 tyok_0 hown (hW _ k_328) (hW _ k_329) (hW _ k_11) hK hM hS hA (by decide) rfl df_0 (by decide) (by decide) d_S_answerPut_35 (fun q31 H hq32 hM hS => ?_)
            replace h := h q31 hq32
            obtain ⟨M33, e34⟩ : ∃ z, z = znw M q31 (0, 10) := ⟨_, rfl⟩
            replace h := h M33 e34
            rw [← e34] at hM
            have t35 : zT M33 q31 = some (0, 10) := by rw [e34, zT_nw, if_pos rfl]
            refine lv_dup hx hb d_S_answerPut_38 rfl ?_
            refine lv_sipush (v := (412 : Int32)) hx hb d_S_answerPut_39 (by decide) ?_
            refine z_ctv (mc := 1) (ms := 3) (va_runI (As := [.int (412 : Int32)]) (rest := [.ref q31]) ⟨hx, hb, hml, hown, hW⟩ (c_A_init l ca D M33 H.size q31 (412 : Int32) _) (cw_A_init hW k_330 ⟨by decide, by decide⟩) (zPre_S hK hN hM h) rfl rfl hl.1.1 rfl (lv_room (Nat.le_of_ble_eq_true rfl)) d_S_answerPut_42 ⟨by decide, by decide⟩) hM hS hA (fun M36 H locs h hM hS => ?_)
            refine W.widen (k := 2) (n := 13) (by decide) (by decide) ?_
            rw [← hQ]
            exact z_aret (v := (some q31)) hx hb hr hlk hK hM hS h d_S_answerPut_45
      · replace h := h.1 c28
        refine lv_iconst (v := (1 : Int32)) hx hb d_S_answerPut_18 (by decide) ?_
        refine lv_goto (tgt := 23) hx hb d_S_answerPut_19 rfl ?_
        refine z_istore_n hx hb d_S_answerPut_23 rfl hl (by decide) rfl (fun ls hl => ?_)
        have hl : zL ls 5 [(3, .int (1 : Int32)), (0, .ref a0), (1, .ref a1), (2, .ref a2)] := hl
        refine lv_aload_n hx hb d_S_answerPut_24 rfl (hl.at 2 rfl) ?_
        refine z_getI hx hb hW in_3 hown hK hM t27 (by decide) rfl 5 (by decide) rfl (hW _ k_256) rfl d_S_answerPut_25 ?_
        refine lv_if_eq (tgt := 46) hx hb d_S_answerPut_28 rfl (fun c37 => ?_) (fun c37 => ?_)
        · replace h := h.1 c37
          exact b_46 M H locs ls a0 a1 a2 (1 : Int32) (hl.sub [1, 2, 3, 0] rfl) hM hS h
        · replace h := h.2 c37
          refine lv_iload_n hx hb d_S_answerPut_31 rfl (hl.at 0 rfl) ?_
          refine lv_if_ne (tgt := 46) hx hb d_S_answerPut_32 rfl (fun c38 => ?_) (fun c38 => ?_)
          · replace h := h.2 c38
            exact b_46 M H locs ls a0 a1 a2 (1 : Int32) (hl.sub [1, 2, 3, 0] rfl) hM hS h
          · replace h := h.1 c38
            refine z_new (ci := 0) hx hb hW in_0 ty_0 tyok_0 hown (hW _ k_328) (hW _ k_329) (hW _ k_11) hK hM hS hA (by decide) rfl df_0 (by decide) (by decide) d_S_answerPut_35 (fun q39 H hq40 hM hS => ?_)
            replace h := h q39 hq40
            obtain ⟨M41, e42⟩ : ∃ z, z = znw M q39 (0, 10) := ⟨_, rfl⟩
            replace h := h M41 e42
            rw [← e42] at hM
            have t43 : zT M41 q39 = some (0, 10) := by rw [e42, zT_nw, if_pos rfl]
            refine lv_dup hx hb d_S_answerPut_38 rfl ?_
            refine lv_sipush (v := (412 : Int32)) hx hb d_S_answerPut_39 (by decide) ?_
            refine z_ctv (mc := 1) (ms := 3) (va_runI (As := [.int (412 : Int32)]) (rest := [.ref q39]) ⟨hx, hb, hml, hown, hW⟩ (c_A_init l ca D M41 H.size q39 (412 : Int32) _) (cw_A_init hW k_330 ⟨by decide, by decide⟩) (zPre_S hK hN hM h) rfl rfl hl.1.1 rfl (lv_room (Nat.le_of_ble_eq_true rfl)) d_S_answerPut_42 ⟨by decide, by decide⟩) hM hS hA (fun M44 H locs h hM hS => ?_)
            refine W.widen (k := 2) (n := 13) (by decide) (by decide) ?_
            rw [← hQ]
            exact z_aret (v := (some q39)) hx hb hr hlk hK hM hS h d_S_answerPut_45
  exact b_start M s.heap [] ls a0 a1 a2 hl hM hS h
