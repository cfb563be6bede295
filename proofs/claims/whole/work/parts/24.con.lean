set_option maxHeartbeats 4000000 in
set_option maxRecDepth 100000 in
theorem c_X_get (l : Launch) (ca : Nat → ClassId) (D : va_G) (M : zM) (sz : Nat) (a0 : Nat) (x1 : Int32) (post : Int32 → zM → Prop) : Met l y_X_get (Cond.code y_X_get prog_1_method_4_code 2 (some .int) :: zws) rm_X_get (zPre ca D zcl (ztys ca) [.ref a0, .int x1] M sz (w_X_get M a0 x1 post)) (va_Qi post (zB ca D zcl (ztys ca) (zA M sz)) (zA M sz)) 1 12 (zA M sz) := by
  refine z_met (cc := prog_1_method_4_code) (maxL := 2) (ret := (some .int)) (plainFor_of_name (by decide)) rfl (by simp [Value.category]) (Nat.le_of_ble_eq_true rfl) ?_
  intro p e s m args below meth c ls A hx hb hr hlk hml hts hown hnm hK hN hl hA0 hM hS hA h
  rw [← hA0]
  have hW : ∀ w ∈ zws, w.before args s = true := fun w hw => hts w (List.mem_cons_of_mem _ hw)
  have hl : zL ls 2 [(0, .ref a0), (1, .int x1)] := hl
  generalize hQ : MQ below (va_Qi post (zB ca D zcl (ztys ca) A) A) args s 1 12 A = Q
  have b_start : ∀ (M : zM) (H : Heap) (locs : List Loc) (ls : Array Slot) (a0 : Nat) (x1 : Int32), zL ls 2 [(0, .ref a0), (1, .int x1)] → zW ca D zcl A M H → va_S A s.heap H locs → w_X_get M a0 x1 post → W p l e rm_X_get s m args below meth c H locs 0 0 Q (F0 m 0 ls []) := by
    intro M H locs ls a0 x1 hl hM hS h
    unfold w_X_get at h
    refine lv_aload_n hx hb d_X_get_0 rfl (hl.at 0 rfl) ?_
    refine lv_iload_n hx hb d_X_get_1 rfl (hl.at 1 rfl) ?_
    refine lv_iconst (v := (0 : Int32)) hx hb d_X_get_2 (by decide) ?_
    refine lv_iconst (v := (0 : Int32)) hx hb d_X_get_3 (by decide) ?_
    refine lv_iconst (v := (0 : Int32)) hx hb d_X_get_4 (by decide) ?_
    obtain ⟨t1, h⟩ := h
    refine z_cti (mc := 1) (ms := 12) (va_runV (As := [.int x1, .int (0 : Int32), .int (0 : Int32), .int (0 : Int32)]) (rest := []) ⟨hx, hb, hml, hown, hW⟩ (c_X_makeRequest l ca D M H.size a0 x1 (0 : Int32) (0 : Int32) (0 : Int32) _) (cw_X_makeRequest hW k_227 ⟨by decide, by decide⟩) (zPre_V hK hN hM h t1 (by decide) rfl) rfl rfl hl.1.1 rfl (lv_room (Nat.le_of_ble_eq_true rfl)) d_X_get_5 ⟨by decide, by decide⟩) hM hS hA (fun r2 M3 H locs h hM hS => ?_)
    refine W.widen (k := 1) (n := 12) (by decide) (by decide) ?_
    rw [← hQ]
    exact z_iret hx hb hr hlk hK hM hS h d_X_get_8
  exact b_start M s.heap [] ls a0 x1 hl hM hS h
set_option maxHeartbeats 4000000 in
set_option maxRecDepth 100000 in
theorem c_X_replace (l : Launch) (ca : Nat → ClassId) (D : va_G) (M : zM) (sz : Nat) (a0 : Nat) (x1 : Int32) (x2 : Int32) (x3 : Int32) (post : Int32 → zM → Prop) : Met l y_X_replace (Cond.code y_X_replace prog_1_method_5_code 4 (some .int) :: zws) rm_X_replace (zPre ca D zcl (ztys ca) [.ref a0, .int x1, .int x2, .int x3] M sz (w_X_replace M a0 x1 x2 x3 post)) (va_Qi post (zB ca D zcl (ztys ca) (zA M sz)) (zA M sz)) 1 12 (zA M sz) := by
  refine z_met (cc := prog_1_method_5_code) (maxL := 4) (ret := (some .int)) (plainFor_of_name (by decide)) rfl (by simp [Value.category]) (Nat.le_of_ble_eq_true rfl) ?_
  intro p e s m args below meth c ls A hx hb hr hlk hml hts hown hnm hK hN hl hA0 hM hS hA h
  rw [← hA0]
  have hW : ∀ w ∈ zws, w.before args s = true := fun w hw => hts w (List.mem_cons_of_mem _ hw)
  have hl : zL ls 4 [(0, .ref a0), (1, .int x1), (2, .int x2), (3, .int x3)] := hl
  generalize hQ : MQ below (va_Qi post (zB ca D zcl (ztys ca) A) A) args s 1 12 A = Q
  have b_start : ∀ (M : zM) (H : Heap) (locs : List Loc) (ls : Array Slot) (a0 : Nat) (x1 : Int32) (x2 : Int32) (x3 : Int32), zL ls 4 [(0, .ref a0), (1, .int x1), (2, .int x2), (3, .int x3)] → zW ca D zcl A M H → va_S A s.heap H locs → w_X_replace M a0 x1 x2 x3 post → W p l e rm_X_replace s m args below meth c H locs 0 0 Q (F0 m 0 ls []) := by
    intro M H locs ls a0 x1 x2 x3 hl hM hS h
    unfold w_X_replace at h
    refine lv_iload_n hx hb d_X_replace_0 rfl (hl.at 3 rfl) ?_
    refine z_cti (mc := 0) (ms := 0) (va_runS (As := [.int x3]) (rest := []) ⟨hx, hb, hml, hown, hW⟩ (c_X_isLifetime l ca D M H.size x3 _) (cw_X_isLifetime hW k_212 ⟨by decide, by decide⟩) (zPre_S hK hN hM h) rfl rfl hl.1.1 rfl (lv_room (Nat.le_of_ble_eq_true rfl)) d_X_replace_1 ⟨by decide, by decide⟩) hM hS hA (fun r1 M2 H locs h hM hS => ?_)
    refine lv_if_ne (tgt := 9) hx hb d_X_replace_4 rfl (fun c3 => ?_) (fun c3 => ?_)
    · replace h := h.2 c3
      refine lv_aload_n hx hb d_X_replace_9 rfl (hl.at 0 rfl) ?_
      refine lv_iload_n hx hb d_X_replace_10 rfl (hl.at 1 rfl) ?_
      refine lv_iconst (v := (1 : Int32)) hx hb d_X_replace_11 (by decide) ?_
      refine lv_iload_n hx hb d_X_replace_12 rfl (hl.at 2 rfl) ?_
      refine lv_iload_n hx hb d_X_replace_13 rfl (hl.at 3 rfl) ?_
      obtain ⟨t4, h⟩ := h
      refine z_cti (mc := 1) (ms := 12) (va_runV (As := [.int x1, .int (1 : Int32), .int x2, .int x3]) (rest := []) ⟨hx, hb, hml, hown, hW⟩ (c_X_makeRequest l ca D M2 H.size a0 x1 (1 : Int32) x2 x3 _) (cw_X_makeRequest hW k_227 ⟨by decide, by decide⟩) (zPre_V hK hN hM h t4 (by decide) rfl) rfl rfl hl.1.1 rfl (lv_room (Nat.le_of_ble_eq_true rfl)) d_X_replace_14 ⟨by decide, by decide⟩) hM hS hA (fun r5 M6 H locs h hM hS => ?_)
      refine W.widen (k := 1) (n := 12) (by decide) (by decide) ?_
      rw [← hQ]
      exact z_iret hx hb hr hlk hK hM hS h d_X_replace_17
    · replace h := h.1 c3
      refine lv_iconst (v := (-1 : Int32)) hx hb d_X_replace_7 (by decide) ?_
      refine W.widen (k := 1) (n := 12) (by decide) (by decide) ?_
      rw [← hQ]
      exact z_iret hx hb hr hlk hK hM hS h d_X_replace_8
  exact b_start M s.heap [] ls a0 x1 x2 x3 hl hM hS h
set_option maxHeartbeats 4000000 in
set_option maxRecDepth 100000 in
theorem c_X_requestAt (l : Launch) (ca : Nat → ClassId) (D : va_G) (M : zM) (sz : Nat) (a0 : Nat) (x1 : Int32) (post : Option Nat → zM → Prop) : Met l y_X_requestAt (Cond.code y_X_requestAt prog_1_method_21_code 2 (some (.object "TabledOrigin$Request")) :: zws) rm_X_requestAt (zPre ca D zcl (ztys ca) [.ref a0, .int x1] M sz (w_X_requestAt M a0 x1 post)) (va_Qq post (zB ca D zcl (ztys ca) (zA M sz)) (zA M sz)) 0 0 (zA M sz) := by
  refine z_met (cc := prog_1_method_21_code) (maxL := 2) (ret := (some (.object "TabledOrigin$Request"))) (plainFor_of_name (by decide)) rfl (by simp [Value.category]) (Nat.le_of_ble_eq_true rfl) ?_
  intro p e s m args below meth c ls A hx hb hr hlk hml hts hown hnm hK hN hl hA0 hM hS hA h
  rw [← hA0]
  have hW : ∀ w ∈ zws, w.before args s = true := fun w hw => hts w (List.mem_cons_of_mem _ hw)
  have hl : zL ls 2 [(0, .ref a0), (1, .int x1)] := hl
  generalize hQ : MQ below (va_Qq post (zB ca D zcl (ztys ca) A) A) args s 0 0 A = Q
  have b_start : ∀ (M : zM) (H : Heap) (locs : List Loc) (ls : Array Slot) (a0 : Nat) (x1 : Int32), zL ls 2 [(0, .ref a0), (1, .int x1)] → zW ca D zcl A M H → va_S A s.heap H locs → w_X_requestAt M a0 x1 post → W p l e rm_X_requestAt s m args below meth c H locs 0 0 Q (F0 m 0 ls []) := by
    intro M H locs ls a0 x1 hl hM hS h
    unfold w_X_requestAt at h
    refine lv_iload_n hx hb d_X_requestAt_0 rfl (hl.at 1 rfl) ?_
    refine lv_if_lt (tgt := 21) hx hb d_X_requestAt_1 rfl (fun c1 => ?_) (fun c1 => ?_)
    · replace h := h.1 c1
      refine lv_null hx hb d_X_requestAt_21 ?_
      rw [← hQ]
      exact z_aret (v := none) hx hb hr hlk hK hM hS h d_X_requestAt_22
    · replace h := h.2 c1
      refine lv_iload_n hx hb d_X_requestAt_4 rfl (hl.at 1 rfl) ?_
      refine lv_aload_n hx hb d_X_requestAt_5 rfl (hl.at 0 rfl) ?_
      obtain ⟨t2, h⟩ := h
      refine z_getI hx hb hW in_8 hown hK hM t2 (by decide) rfl 4 (by decide) rfl (hW _ k_189) rfl d_X_requestAt_6 ?_
      refine lv_icmp_ge (tgt := 21) hx hb d_X_requestAt_9 rfl (fun c3 => ?_) (fun c3 => ?_)
      · replace h := h.1 c3
        refine lv_null hx hb d_X_requestAt_21 ?_
        rw [← hQ]
        exact z_aret (v := none) hx hb hr hlk hK hM hS h d_X_requestAt_22
      · replace h := h.2 c3
        refine lv_iload_n hx hb d_X_requestAt_12 rfl (hl.at 1 rfl) ?_
        refine lv_aload_n hx hb d_X_requestAt_13 rfl (hl.at 0 rfl) ?_
        refine z_getR hx hb hW in_8 hown hK hM t2 (by decide) rfl 3 (by decide) rfl (hW _ k_188) rfl d_X_requestAt_14 ?_
        obtain ⟨b4, hb5, h⟩ := h
        rw [hb5]
        obtain ⟨n7, t6, h⟩ := h
        refine z_alen hx hb hK hM t6 (by decide) 2 rfl d_X_requestAt_17 ?_
        refine lv_icmp_lt (tgt := 23) hx hb d_X_requestAt_18 rfl (fun c8 => ?_) (fun c8 => ?_)
        · replace h := h.1 c8
          refine lv_aload_n hx hb d_X_requestAt_23 rfl (hl.at 0 rfl) ?_
          refine z_getR hx hb hW in_8 hown hK hM t2 (by decide) rfl 3 (by decide) rfl (hW _ k_188) rfl d_X_requestAt_24 ?_
          refine lv_iload_n hx hb d_X_requestAt_27 rfl (hl.at 1 rfl) ?_
          obtain ⟨b9, hb10, h⟩ := h
          rw [hb10]
          obtain ⟨n12, t11, h⟩ := h
          obtain ⟨i13, h⟩ := h
          refine z_aald hx hb hK hM t11 (by decide) 2 rfl i13 d_X_requestAt_28 ?_
          rw [← hQ]
          exact z_aret (v := zR M b9 x1.toNatClampNeg) hx hb hr hlk hK hM hS h d_X_requestAt_29
        · replace h := h.2 c8
          refine lv_null hx hb d_X_requestAt_21 ?_
          rw [← hQ]
          exact z_aret (v := none) hx hb hr hlk hK hM hS h d_X_requestAt_22
  exact b_start M s.heap [] ls a0 x1 hl hM hS h
set_option maxHeartbeats 4000000 in
set_option maxRecDepth 100000 in
theorem c_X_arrive (l : Launch) (ca : Nat → ClassId) (D : va_G) (M : zM) (sz : Nat) (a0 : Nat) (x1 : Int32) (post : Int32 → zM → Prop) : Met l y_X_arrive (Cond.code y_X_arrive prog_1_method_6_code 3 (some .int) :: zws) rm_X_arrive (zPre ca D zcl (ztys ca) [.ref a0, .int x1] M sz (w_X_arrive M a0 x1 post)) (va_Qi post (zB ca D zcl (ztys ca) (zA M sz)) (zA M sz)) 2 13 (zA M sz) := by
  refine z_met (cc := prog_1_method_6_code) (maxL := 3) (ret := (some .int)) (plainFor_of_name (by decide)) rfl (by simp [Value.category]) (Nat.le_of_ble_eq_true rfl) ?_
  intro p e s m args below meth c ls A hx hb hr hlk hml hts hown hnm hK hN hl hA0 hM hS hA h
  rw [← hA0]
  have hW : ∀ w ∈ zws, w.before args s = true := fun w hw => hts w (List.mem_cons_of_mem _ hw)
  have hl : zL ls 3 [(0, .ref a0), (1, .int x1)] := hl
  generalize hQ : MQ below (va_Qi post (zB ca D zcl (ztys ca) A) A) args s 2 13 A = Q
  have b_start : ∀ (M : zM) (H : Heap) (locs : List Loc) (ls : Array Slot) (a0 : Nat) (x1 : Int32), zL ls 3 [(0, .ref a0), (1, .int x1)] → zW ca D zcl A M H → va_S A s.heap H locs → w_X_arrive M a0 x1 post → W p l e rm_X_arrive s m args below meth c H locs 0 0 Q (F0 m 0 ls []) := by
    intro M H locs ls a0 x1 hl hM hS h
    unfold w_X_arrive at h
    refine lv_aload_n hx hb d_X_arrive_0 rfl (hl.at 0 rfl) ?_
    refine lv_iload_n hx hb d_X_arrive_1 rfl (hl.at 1 rfl) ?_
    obtain ⟨t1, h⟩ := h
    refine z_ctq (mc := 0) (ms := 0) (va_runV (As := [.int x1]) (rest := []) ⟨hx, hb, hml, hown, hW⟩ (c_X_requestAt l ca D M H.size a0 x1 _) (cw_X_requestAt hW k_312 ⟨by decide, by decide⟩) (zPre_V hK hN hM h t1 (by decide) rfl) rfl rfl hl.1.1 rfl (lv_room (Nat.le_of_ble_eq_true rfl)) d_X_arrive_2 ⟨by decide, by decide⟩) hM hS hA (fun r2 M3 H locs h hM hS => ?_)
    refine z_astore_n (x := r2) hx hb d_X_arrive_5 rfl hl (by decide) rfl (fun ls hl => ?_)
    have hl : zL ls 3 [(2, va_rf r2), (0, .ref a0), (1, .int x1)] := hl
    refine z_aload_n hx hb d_X_arrive_6 rfl (hl.at 0 rfl) ?_
    cases r2 with
    | none =>
      replace h := h.1 rfl
      refine lv_ifnullN (tgt := 17) hx hb d_X_arrive_7 rfl ?_
      refine lv_iconst (v := (-1 : Int32)) hx hb d_X_arrive_17 (by decide) ?_
      refine W.widen (k := 2) (n := 13) (by decide) (by decide) ?_
      rw [← hQ]
      exact z_iret hx hb hr hlk hK hM hS h d_X_arrive_18
    | some b4 =>
      replace h := h.2 b4 rfl
      refine lv_ifnull hx hb d_X_arrive_7 ?_
      refine lv_aload_n hx hb d_X_arrive_10 rfl (hl.at 0 rfl) ?_
      obtain ⟨t5, h⟩ := h
      refine z_getI hx hb hW in_3 hown hK hM t5 (by decide) rfl 8 (by decide) rfl (hW _ k_260) rfl d_X_arrive_11 ?_
      refine lv_if_ne (tgt := 19) hx hb d_X_arrive_14 rfl (fun c6 => ?_) (fun c6 => ?_)
      · replace h := h.2 c6
        refine lv_aload_n hx hb d_X_arrive_19 rfl (hl.at 0 rfl) ?_
        refine lv_iconst (v := (0 : Int32)) hx hb d_X_arrive_20 (by decide) ?_
        refine z_putI hx hb hW in_3 ty_3 tyok_3 nm_3 hown hK hM hS t5 (by decide) rfl 8 (by decide) rfl (hW _ k_260) rfl (Or.inl rfl) rfl rfl d_X_arrive_21 (fun H locs hM hS => ?_)
        obtain ⟨M7, e8⟩ : ∃ z, z = zwI M3 b4 8 (0 : Int32) := ⟨_, rfl⟩
        replace h := h M7 e8
        rw [← e8] at hM
        refine lv_aload_n hx hb d_X_arrive_24 rfl (hl.at 1 rfl) ?_
        obtain ⟨t9, h⟩ := h
        refine z_getR hx hb hW in_8 hown hK hM t9 (by decide) rfl 0 (by decide) rfl (hW _ k_185) rfl d_X_arrive_25 ?_
        refine lv_aload_n hx hb d_X_arrive_28 rfl (hl.at 0 rfl) ?_
        obtain ⟨b10, hb11, h⟩ := h
        rw [hb11]
        obtain ⟨t12, h⟩ := h
        refine z_cti (mc := 2) (ms := 13) (va_runV (As := [.ref b4]) (rest := []) ⟨hx, hb, hml, hown, hW⟩ (c_S_takeRequest l ca D M7 H.size b10 b4 _) (cw_S_takeRequest hW k_316 ⟨by decide, by decide⟩) (zPre_V hK hN hM h t12 (by decide) rfl) rfl rfl hl.1.1 rfl (lv_room (Nat.le_of_ble_eq_true rfl)) d_X_arrive_29 ⟨by decide, by decide⟩) hM hS hA (fun r13 M14 H locs h hM hS => ?_)
        refine W.widen (k := 2) (n := 13) (by decide) (by decide) ?_
        rw [← hQ]
        exact z_iret hx hb hr hlk hK hM hS h d_X_arrive_32
      · replace h := h.1 c6
        refine lv_iconst (v := (-1 : Int32)) hx hb d_X_arrive_17 (by decide) ?_
        refine W.widen (k := 2) (n := 13) (by decide) (by decide) ?_
        rw [← hQ]
        exact z_iret hx hb hr hlk hK hM hS h d_X_arrive_18
  exact b_start M s.heap [] ls a0 x1 hl hM hS h
set_option maxHeartbeats 4000000 in
set_option maxRecDepth 100000 in
theorem c_X_reply (l : Launch) (ca : Nat → ClassId) (D : va_G) (M : zM) (sz : Nat) (a0 : Nat) (x1 : Int32) (post : Int32 → zM → Prop) : Met l y_X_reply (Cond.code y_X_reply prog_1_method_7_code 3 (some .int) :: zws) rm_X_reply (zPre ca D zcl (ztys ca) [.ref a0, .int x1] M sz (w_X_reply M a0 x1 post)) (va_Qi post (zB ca D zcl (ztys ca) (zA M sz)) (zA M sz)) 0 0 (zA M sz) := by
  refine z_met (cc := prog_1_method_7_code) (maxL := 3) (ret := (some .int)) (plainFor_of_name (by decide)) rfl (by simp [Value.category]) (Nat.le_of_ble_eq_true rfl) ?_
  intro p e s m args below meth c ls A hx hb hr hlk hml hts hown hnm hK hN hl hA0 hM hS hA h
  rw [← hA0]
  have hW : ∀ w ∈ zws, w.before args s = true := fun w hw => hts w (List.mem_cons_of_mem _ hw)
  have hl : zL ls 3 [(0, .ref a0), (1, .int x1)] := hl
  generalize hQ : MQ below (va_Qi post (zB ca D zcl (ztys ca) A) A) args s 0 0 A = Q
  have b_start : ∀ (M : zM) (H : Heap) (locs : List Loc) (ls : Array Slot) (a0 : Nat) (x1 : Int32), zL ls 3 [(0, .ref a0), (1, .int x1)] → zW ca D zcl A M H → va_S A s.heap H locs → w_X_reply M a0 x1 post → W p l e rm_X_reply s m args below meth c H locs 0 0 Q (F0 m 0 ls []) := by
    intro M H locs ls a0 x1 hl hM hS h
    unfold w_X_reply at h
    refine lv_aload_n hx hb d_X_reply_0 rfl (hl.at 0 rfl) ?_
    refine lv_iload_n hx hb d_X_reply_1 rfl (hl.at 1 rfl) ?_
    obtain ⟨t1, h⟩ := h
    refine z_ctq (mc := 0) (ms := 0) (va_runV (As := [.int x1]) (rest := []) ⟨hx, hb, hml, hown, hW⟩ (c_X_requestAt l ca D M H.size a0 x1 _) (cw_X_requestAt hW k_312 ⟨by decide, by decide⟩) (zPre_V hK hN hM h t1 (by decide) rfl) rfl rfl hl.1.1 rfl (lv_room (Nat.le_of_ble_eq_true rfl)) d_X_reply_2 ⟨by decide, by decide⟩) hM hS hA (fun r2 M3 H locs h hM hS => ?_)
    refine z_astore_n (x := r2) hx hb d_X_reply_5 rfl hl (by decide) rfl (fun ls hl => ?_)
    have hl : zL ls 3 [(2, va_rf r2), (0, .ref a0), (1, .int x1)] := hl
    refine z_aload_n hx hb d_X_reply_6 rfl (hl.at 0 rfl) ?_
    cases r2 with
    | none =>
      replace h := h.1 rfl
      refine lv_ifnullN (tgt := 27) hx hb d_X_reply_7 rfl ?_
      refine lv_iconst (v := (-1 : Int32)) hx hb d_X_reply_27 (by decide) ?_
      refine W.widen (k := 0) (n := 0) (by decide) (by decide) ?_
      rw [← hQ]
      exact z_iret hx hb hr hlk hK hM hS h d_X_reply_28
    | some b4 =>
      replace h := h.2 b4 rfl
      refine lv_ifnull hx hb d_X_reply_7 ?_
      refine lv_aload_n hx hb d_X_reply_10 rfl (hl.at 0 rfl) ?_
      obtain ⟨t5, h⟩ := h
      refine z_getR hx hb hW in_3 hown hK hM t5 (by decide) rfl 11 (by decide) rfl (hW _ k_266) rfl d_X_reply_11 ?_
      cases hc43 : zR M3 b4 11 with
      | none =>
        replace h := h.1 hc43
        refine lv_ifnullN (tgt := 27) hx hb d_X_reply_14 rfl ?_
        refine lv_iconst (v := (-1 : Int32)) hx hb d_X_reply_27 (by decide) ?_
        refine W.widen (k := 0) (n := 0) (by decide) (by decide) ?_
        rw [← hQ]
        exact z_iret hx hb hr hlk hK hM hS h d_X_reply_28
      | some b6 =>
        replace h := h.2 b6 hc43
        refine lv_ifnull hx hb d_X_reply_14 ?_
        refine lv_aload_n hx hb d_X_reply_17 rfl (hl.at 0 rfl) ?_
        refine z_getR hx hb hW in_3 hown hK hM t5 (by decide) rfl 11 (by decide) rfl (hW _ k_266) rfl d_X_reply_18 ?_
        obtain ⟨b7, hb8, h⟩ := h
        rw [hb8]
        obtain ⟨t9, h⟩ := h
        refine z_getI hx hb hW in_0 hown hK hM t9 (by decide) rfl 7 (by decide) rfl (hW _ k_351) rfl d_X_reply_21 ?_
        refine lv_if_ne (tgt := 29) hx hb d_X_reply_24 rfl (fun c10 => ?_) (fun c10 => ?_)
        · replace h := h.2 c10
          refine lv_aload_n hx hb d_X_reply_29 rfl (hl.at 0 rfl) ?_
          refine z_getR hx hb hW in_3 hown hK hM t5 (by decide) rfl 11 (by decide) rfl (hW _ k_266) rfl d_X_reply_30 ?_
          refine lv_iconst (v := (0 : Int32)) hx hb d_X_reply_33 (by decide) ?_
          obtain ⟨b11, hb12, h⟩ := h
          rw [hb12]
          obtain ⟨t13, h⟩ := h
          refine z_putI hx hb hW in_0 ty_0 tyok_0 nm_0 hown hK hM hS t13 (by decide) rfl 7 (by decide) rfl (hW _ k_351) rfl (Or.inl rfl) rfl rfl d_X_reply_34 (fun H locs hM hS => ?_)
          obtain ⟨M14, e15⟩ : ∃ z, z = zwI M3 b11 7 (0 : Int32) := ⟨_, rfl⟩
          replace h := h M14 e15
          rw [← e15] at hM
          refine lv_aload_n hx hb d_X_reply_37 rfl (hl.at 1 rfl) ?_
          obtain ⟨t16, h⟩ := h
          refine z_getR hx hb hW in_8 hown hK hM t16 (by decide) rfl 1 (by decide) rfl (hW _ k_186) rfl d_X_reply_38 ?_
          refine lv_aload_n hx hb d_X_reply_41 rfl (hl.at 0 rfl) ?_
          have t17 : zT M14 b4 = some (3, 12) := by rw [e15]; exact t5
          refine z_getR hx hb hW in_3 hown hK hM t17 (by decide) rfl 11 (by decide) rfl (hW _ k_266) rfl d_X_reply_42 ?_
          obtain ⟨b18, hb19, h⟩ := h
          rw [hb19]
          obtain ⟨b20, hb21, h⟩ := h
          rw [hb21]
          obtain ⟨t22, h⟩ := h
          refine z_cti (mc := 0) (ms := 0) (va_runV (As := [.ref b18]) (rest := []) ⟨hx, hb, hml, hown, hW⟩ (c_C_mustWaitFor l ca D M14 H.size b20 b18 _) (cw_C_mustWaitFor hW k_448 ⟨by decide, by decide⟩) (zPre_V hK hN hM h t22 (by decide) rfl) rfl rfl hl.1.1 rfl (lv_room (Nat.le_of_ble_eq_true rfl)) d_X_reply_45 ⟨by decide, by decide⟩) hM hS hA (fun r23 M24 H locs h hM hS => ?_)
          refine lv_if_eq (tgt := 61) hx hb d_X_reply_48 rfl (fun c25 => ?_) (fun c25 => ?_)
          · replace h := h.1 c25
            refine lv_aload_n hx hb d_X_reply_61 rfl (hl.at 1 rfl) ?_
            obtain ⟨t26, h⟩ := h
            refine z_getR hx hb hW in_8 hown hK hM t26 (by decide) rfl 1 (by decide) rfl (hW _ k_186) rfl d_X_reply_62 ?_
            refine lv_aload_n hx hb d_X_reply_65 rfl (hl.at 0 rfl) ?_
            refine lv_aload_n hx hb d_X_reply_66 rfl (hl.at 0 rfl) ?_
            obtain ⟨t27, h⟩ := h
            refine z_getR hx hb hW in_3 hown hK hM t27 (by decide) rfl 11 (by decide) rfl (hW _ k_266) rfl d_X_reply_67 ?_
            refine lv_aload_n hx hb d_X_reply_70 rfl (hl.at 1 rfl) ?_
            refine z_getR hx hb hW in_8 hown hK hM t26 (by decide) rfl 2 (by decide) rfl (hW _ k_187) rfl d_X_reply_71 ?_
            obtain ⟨b28, hb29, h⟩ := h
            rw [hb29]
            obtain ⟨b30, hb31, h⟩ := h
            rw [hb31]
            obtain ⟨b32, hb33, h⟩ := h
            rw [hb33]
            obtain ⟨t34, h⟩ := h
            refine z_ctv (mc := 0) (ms := 0) (va_runV (As := [.ref b4, .ref b30, .ref b28]) (rest := []) ⟨hx, hb, hml, hown, hW⟩ (c_C_read l ca D M24 H.size b32 b4 b30 b28 _) (cw_C_read hW k_452 ⟨by decide, by decide⟩) (zPre_V hK hN hM h t34 (by decide) rfl) rfl rfl hl.1.1 rfl (lv_room (Nat.le_of_ble_eq_true rfl)) d_X_reply_74 ⟨by decide, by decide⟩) hM hS hA (fun M35 H locs h hM hS => ?_)
            refine lv_aload_n hx hb d_X_reply_77 rfl (hl.at 0 rfl) ?_
            obtain ⟨t36, h⟩ := h
            refine z_getI hx hb hW in_3 hown hK hM t36 (by decide) rfl 9 (by decide) rfl (hW _ k_262) rfl d_X_reply_78 ?_
            refine W.widen (k := 0) (n := 0) (by decide) (by decide) ?_
            rw [← hQ]
            exact z_iret hx hb hr hlk hK hM hS h d_X_reply_81
          · replace h := h.2 c25
            refine lv_aload_n hx hb d_X_reply_51 rfl (hl.at 0 rfl) ?_
            obtain ⟨t37, h⟩ := h
            refine z_getR hx hb hW in_3 hown hK hM t37 (by decide) rfl 11 (by decide) rfl (hW _ k_266) rfl d_X_reply_52 ?_
            refine lv_iconst (v := (1 : Int32)) hx hb d_X_reply_55 (by decide) ?_
            obtain ⟨b38, hb39, h⟩ := h
            rw [hb39]
            obtain ⟨t40, h⟩ := h
            refine z_putI hx hb hW in_0 ty_0 tyok_0 nm_0 hown hK hM hS t40 (by decide) rfl 8 (by decide) rfl (hW _ k_352) rfl (Or.inl rfl) rfl rfl d_X_reply_56 (fun H locs hM hS => ?_)
            obtain ⟨M41, e42⟩ : ∃ z, z = zwI M24 b38 8 (1 : Int32) := ⟨_, rfl⟩
            replace h := h M41 e42
            rw [← e42] at hM
            refine lv_iconst (v := (0 : Int32)) hx hb d_X_reply_59 (by decide) ?_
            refine W.widen (k := 0) (n := 0) (by decide) (by decide) ?_
            rw [← hQ]
            exact z_iret hx hb hr hlk hK hM hS h d_X_reply_60
        · replace h := h.1 c10
          refine lv_iconst (v := (-1 : Int32)) hx hb d_X_reply_27 (by decide) ?_
          refine W.widen (k := 0) (n := 0) (by decide) (by decide) ?_
          rw [← hQ]
          exact z_iret hx hb hr hlk hK hM hS h d_X_reply_28
  exact b_start M s.heap [] ls a0 x1 hl hM hS h
set_option maxHeartbeats 4000000 in
set_option maxRecDepth 100000 in
theorem c_X_isBlocked (l : Launch) (ca : Nat → ClassId) (D : va_G) (M : zM) (sz : Nat) (a0 : Nat) (post : Int32 → zM → Prop) : Met l y_X_isBlocked (Cond.code y_X_isBlocked prog_1_method_24_code 1 (some .boolean) :: zws) rm_X_isBlocked (zPre ca D zcl (ztys ca) [.ref a0] M sz (w_X_isBlocked M a0 post)) (va_Qi post (zB ca D zcl (ztys ca) (zA M sz)) (zA M sz)) 0 0 (zA M sz) := by
  refine z_met (cc := prog_1_method_24_code) (maxL := 1) (ret := (some .boolean)) (plainFor_of_name (by decide)) rfl (by simp [Value.category]) (Nat.le_of_ble_eq_true rfl) ?_
  intro p e s m args below meth c ls A hx hb hr hlk hml hts hown hnm hK hN hl hA0 hM hS hA h
  rw [← hA0]
  have hW : ∀ w ∈ zws, w.before args s = true := fun w hw => hts w (List.mem_cons_of_mem _ hw)
  have hl : zL ls 1 [(0, .ref a0)] := hl
  generalize hQ : MQ below (va_Qi post (zB ca D zcl (ztys ca) A) A) args s 0 0 A = Q
  have b_start : ∀ (M : zM) (H : Heap) (locs : List Loc) (ls : Array Slot) (a0 : Nat), zL ls 1 [(0, .ref a0)] → zW ca D zcl A M H → va_S A s.heap H locs → w_X_isBlocked M a0 post → W p l e rm_X_isBlocked s m args below meth c H locs 0 0 Q (F0 m 0 ls []) := by
    intro M H locs ls a0 hl hM hS h
    unfold w_X_isBlocked at h
    refine lv_aload_n hx hb d_X_isBlocked_0 rfl (hl.at 0 rfl) ?_
    refine lv_ifnull hx hb d_X_isBlocked_1 ?_
    refine lv_aload_n hx hb d_X_isBlocked_4 rfl (hl.at 0 rfl) ?_
    obtain ⟨t2, h⟩ := h
    refine z_getR hx hb hW in_3 hown hK hM t2 (by decide) rfl 11 (by decide) rfl (hW _ k_266) rfl d_X_isBlocked_5 ?_
    cases hc8 : zR M a0 11 with
    | none =>
      replace h := h.1 hc8
      refine lv_ifnullN (tgt := 25) hx hb d_X_isBlocked_8 rfl ?_
      refine lv_iconst (v := (0 : Int32)) hx hb d_X_isBlocked_25 (by decide) ?_
      rw [← hQ]
      exact z_zret hx hb hr hlk rfl hK hM hS h d_X_isBlocked_26
    | some b3 =>
      replace h := h.2 b3 hc8
      refine lv_ifnull hx hb d_X_isBlocked_8 ?_
      refine lv_aload_n hx hb d_X_isBlocked_11 rfl (hl.at 0 rfl) ?_
      refine z_getR hx hb hW in_3 hown hK hM t2 (by decide) rfl 11 (by decide) rfl (hW _ k_266) rfl d_X_isBlocked_12 ?_
      obtain ⟨b4, hb5, h⟩ := h
      rw [hb5]
      obtain ⟨t6, h⟩ := h
      refine z_getI hx hb hW in_0 hown hK hM t6 (by decide) rfl 8 (by decide) rfl (hW _ k_352) rfl d_X_isBlocked_15 ?_
      refine lv_if_eq (tgt := 25) hx hb d_X_isBlocked_18 rfl (fun c7 => ?_) (fun c7 => ?_)
      · replace h := h.1 c7
        refine lv_iconst (v := (0 : Int32)) hx hb d_X_isBlocked_25 (by decide) ?_
        rw [← hQ]
        exact z_zret hx hb hr hlk rfl hK hM hS h d_X_isBlocked_26
      · replace h := h.2 c7
        refine lv_iconst (v := (1 : Int32)) hx hb d_X_isBlocked_21 (by decide) ?_
        refine lv_goto (tgt := 26) hx hb d_X_isBlocked_22 rfl ?_
        rw [← hQ]
        exact z_zret hx hb hr hlk rfl hK hM hS h d_X_isBlocked_26
  exact b_start M s.heap [] ls a0 hl hM hS h
set_option maxHeartbeats 4000000 in
set_option maxRecDepth 100000 in
theorem c_X_readUnblocked (l : Launch) (ca : Nat → ClassId) (D : va_G) (M : zM) (sz : Nat) (a0 : Nat) (post : Int32 → zM → Prop) : Met l y_X_readUnblocked (Cond.code y_X_readUnblocked prog_1_method_23_code 4 (some .int) :: zws) rm_X_readUnblocked (zPre ca D zcl (ztys ca) [.ref a0] M sz (w_X_readUnblocked M a0 post)) (va_Qi post (zB ca D zcl (ztys ca) (zA M sz)) (zA M sz)) 0 0 (zA M sz) := by
  refine z_met (cc := prog_1_method_23_code) (maxL := 4) (ret := (some .int)) (plainFor_of_name (by decide)) rfl (by simp [Value.category]) (Nat.le_of_ble_eq_true rfl) ?_
  intro p e s m args below meth c ls A hx hb hr hlk hml hts hown hnm hK hN hl hA0 hM hS hA h
  rw [← hA0]
  have hW : ∀ w ∈ zws, w.before args s = true := fun w hw => hts w (List.mem_cons_of_mem _ hw)
  have hl : zL ls 4 [(0, .ref a0)] := hl
  generalize hQ : MQ below (va_Qi post (zB ca D zcl (ztys ca) A) A) args s 0 0 A = Q
  have b_4 : ∀ (n : Nat) (M : zM) (H : Heap) (locs : List Loc) (ls : Array Slot) (a0 : Nat) (x1 : Int32) (x2 : Int32), zL ls 4 [(0, .ref a0), (1, .int x1), (2, .int x2)] → zW ca D zcl A M H → va_S A s.heap H locs → w_X_readUnblocked_4 post n M a0 x1 x2 → W p l e rm_X_readUnblocked s m args below meth c H locs 0 0 Q (F0 m 4 ls []) := by
    intro n
    induction n with
    | zero =>
      intro M H locs ls a0 x1 x2 hl hM hS h
      exact False.elim h
    | succ n ih =>
      intro M H locs ls a0 x1 x2 hl hM hS h
      rw [w_X_readUnblocked_4] at h
      refine lv_iload_n hx hb d_X_readUnblocked_4 rfl (hl.at 2 rfl) ?_
      refine lv_aload_n hx hb d_X_readUnblocked_5 rfl (hl.at 0 rfl) ?_
      obtain ⟨t1, h⟩ := h
      refine z_getI hx hb hW in_8 hown hK hM t1 (by decide) rfl 4 (by decide) rfl (hW _ k_189) rfl d_X_readUnblocked_6 ?_
      refine lv_icmp_ge (tgt := 72) hx hb d_X_readUnblocked_9 rfl (fun c2 => ?_) (fun c2 => ?_)
      · replace h := h.1 c2
        refine lv_iload_n hx hb d_X_readUnblocked_72 rfl (hl.at 1 rfl) ?_
        rw [← hQ]
        exact z_iret hx hb hr hlk hK hM hS h d_X_readUnblocked_73
      · replace h := h.2 c2
        refine lv_aload_n hx hb d_X_readUnblocked_12 rfl (hl.at 0 rfl) ?_
        refine lv_iload_n hx hb d_X_readUnblocked_13 rfl (hl.at 2 rfl) ?_
        refine z_ctq (mc := 0) (ms := 0) (va_runV (As := [.int x2]) (rest := []) ⟨hx, hb, hml, hown, hW⟩ (c_X_requestAt l ca D M H.size a0 x2 _) (cw_X_requestAt hW k_312 ⟨by decide, by decide⟩) (zPre_V hK hN hM h t1 (by decide) rfl) rfl rfl hl.1.1 rfl (lv_room (Nat.le_of_ble_eq_true rfl)) d_X_readUnblocked_14 ⟨by decide, by decide⟩) hM hS hA (fun r3 M4 H locs h hM hS => ?_)
        refine z_astore_n (x := r3) hx hb d_X_readUnblocked_17 rfl hl (by decide) rfl (fun ls hl => ?_)
        have hl : zL ls 4 [(3, va_rf r3), (0, .ref a0), (1, .int x1), (2, .int x2)] := hl
        refine z_aload_n hx hb d_X_readUnblocked_18 rfl (hl.at 0 rfl) ?_
        obtain ⟨b5, hb6, h⟩ := h
        subst hb6
        refine z_cti (mc := 0) (ms := 0) (va_runS (As := [.ref b5]) (rest := []) ⟨hx, hb, hml, hown, hW⟩ (c_X_isBlocked l ca D M4 H.size b5 _) (cw_X_isBlocked hW k_486 ⟨by decide, by decide⟩) (zPre_S hK hN hM h) rfl rfl hl.1.1 rfl (lv_room (Nat.le_of_ble_eq_true rfl)) d_X_readUnblocked_19 ⟨by decide, by decide⟩) hM hS hA (fun r7 M8 H locs h hM hS => ?_)
        refine lv_if_eq (tgt := 66) hx hb d_X_readUnblocked_22 rfl (fun c9 => ?_) (fun c9 => ?_)
        · replace h := h.1 c9
          refine z_iinc (k := 3) (v := x2 + (1 : Int32)) hx hb d_X_readUnblocked_66 hl rfl rfl (by decide) rfl (fun ls hl => ?_)
          have hl : zL ls 4 [(2, .int (x2 + (1 : Int32))), (3, .ref b5), (0, .ref a0), (1, .int x1)] := hl
          refine lv_goto (tgt := 4) hx hb d_X_readUnblocked_69 rfl ?_
          exact ih M8 H locs ls a0 x1 (x2 + (1 : Int32)) (hl.sub [2, 3, 0] rfl) hM hS h
        · replace h := h.2 c9
          refine lv_aload_n hx hb d_X_readUnblocked_25 rfl (hl.at 1 rfl) ?_
          obtain ⟨t10, h⟩ := h
          refine z_getR hx hb hW in_8 hown hK hM t10 (by decide) rfl 1 (by decide) rfl (hW _ k_186) rfl d_X_readUnblocked_26 ?_
          refine lv_aload_n hx hb d_X_readUnblocked_29 rfl (hl.at 0 rfl) ?_
          obtain ⟨t11, h⟩ := h
          refine z_getR hx hb hW in_3 hown hK hM t11 (by decide) rfl 11 (by decide) rfl (hW _ k_266) rfl d_X_readUnblocked_30 ?_
          obtain ⟨b12, hb13, h⟩ := h
          rw [hb13]
          obtain ⟨b14, hb15, h⟩ := h
          rw [hb15]
          obtain ⟨t16, h⟩ := h
          refine z_cti (mc := 0) (ms := 0) (va_runV (As := [.ref b12]) (rest := []) ⟨hx, hb, hml, hown, hW⟩ (c_C_mustWaitFor l ca D M8 H.size b14 b12 _) (cw_C_mustWaitFor hW k_448 ⟨by decide, by decide⟩) (zPre_V hK hN hM h t16 (by decide) rfl) rfl rfl hl.1.1 rfl (lv_room (Nat.le_of_ble_eq_true rfl)) d_X_readUnblocked_33 ⟨by decide, by decide⟩) hM hS hA (fun r17 M18 H locs h hM hS => ?_)
          refine lv_if_ne (tgt := 66) hx hb d_X_readUnblocked_36 rfl (fun c19 => ?_) (fun c19 => ?_)
          · replace h := h.2 c19
            refine z_iinc (k := 3) (v := x2 + (1 : Int32)) hx hb d_X_readUnblocked_66 hl rfl rfl (by decide) rfl (fun ls hl => ?_)
            have hl : zL ls 4 [(2, .int (x2 + (1 : Int32))), (3, .ref b5), (0, .ref a0), (1, .int x1)] := hl
            refine lv_goto (tgt := 4) hx hb d_X_readUnblocked_69 rfl ?_
            exact ih M18 H locs ls a0 x1 (x2 + (1 : Int32)) (hl.sub [2, 3, 0] rfl) hM hS h
          · replace h := h.1 c19
            refine lv_aload_n hx hb d_X_readUnblocked_39 rfl (hl.at 0 rfl) ?_
            obtain ⟨t20, h⟩ := h
            refine z_getR hx hb hW in_3 hown hK hM t20 (by decide) rfl 11 (by decide) rfl (hW _ k_266) rfl d_X_readUnblocked_40 ?_
            refine lv_iconst (v := (0 : Int32)) hx hb d_X_readUnblocked_43 (by decide) ?_
            obtain ⟨b21, hb22, h⟩ := h
            rw [hb22]
            obtain ⟨t23, h⟩ := h
            refine z_putI hx hb hW in_0 ty_0 tyok_0 nm_0 hown hK hM hS t23 (by decide) rfl 8 (by decide) rfl (hW _ k_352) rfl (Or.inl rfl) rfl rfl d_X_readUnblocked_44 (fun H locs hM hS => ?_)
            obtain ⟨M24, e25⟩ : ∃ z, z = zwI M18 b21 8 (0 : Int32) := ⟨_, rfl⟩
            replace h := h M24 e25
            rw [← e25] at hM
            refine lv_aload_n hx hb d_X_readUnblocked_47 rfl (hl.at 1 rfl) ?_
            obtain ⟨t26, h⟩ := h
            refine z_getR hx hb hW in_8 hown hK hM t26 (by decide) rfl 1 (by decide) rfl (hW _ k_186) rfl d_X_readUnblocked_48 ?_
            refine lv_aload_n hx hb d_X_readUnblocked_51 rfl (hl.at 0 rfl) ?_
            refine lv_aload_n hx hb d_X_readUnblocked_52 rfl (hl.at 0 rfl) ?_
            have t27 : zT M24 b5 = some (3, 12) := by rw [e25]; exact t20
            refine z_getR hx hb hW in_3 hown hK hM t27 (by decide) rfl 11 (by decide) rfl (hW _ k_266) rfl d_X_readUnblocked_53 ?_
            refine lv_aload_n hx hb d_X_readUnblocked_56 rfl (hl.at 1 rfl) ?_
            refine z_getR hx hb hW in_8 hown hK hM t26 (by decide) rfl 2 (by decide) rfl (hW _ k_187) rfl d_X_readUnblocked_57 ?_
            obtain ⟨b28, hb29, h⟩ := h
            rw [hb29]
            obtain ⟨b30, hb31, h⟩ := h
            rw [hb31]
            obtain ⟨b32, hb33, h⟩ := h
            rw [hb33]
            obtain ⟨t34, h⟩ := h
            refine z_ctv (mc := 0) (ms := 0) (va_runV (As := [.ref b5, .ref b30, .ref b28]) (rest := []) ⟨hx, hb, hml, hown, hW⟩ (c_C_read l ca D M24 H.size b32 b5 b30 b28 _) (cw_C_read hW k_452 ⟨by decide, by decide⟩) (zPre_V hK hN hM h t34 (by decide) rfl) rfl rfl hl.1.1 rfl (lv_room (Nat.le_of_ble_eq_true rfl)) d_X_readUnblocked_60 ⟨by decide, by decide⟩) hM hS hA (fun M35 H locs h hM hS => ?_)
            refine z_iinc (k := 2) (v := x1 + (1 : Int32)) hx hb d_X_readUnblocked_63 hl rfl rfl (by decide) rfl (fun ls hl => ?_)
            have hl : zL ls 4 [(1, .int (x1 + (1 : Int32))), (3, .ref b5), (0, .ref a0), (2, .int x2)] := hl
            refine z_iinc (k := 3) (v := x2 + (1 : Int32)) hx hb d_X_readUnblocked_66 hl rfl rfl (by decide) rfl (fun ls hl => ?_)
            have hl : zL ls 4 [(2, .int (x2 + (1 : Int32))), (1, .int (x1 + (1 : Int32))), (3, .ref b5), (0, .ref a0)] := hl
            refine lv_goto (tgt := 4) hx hb d_X_readUnblocked_69 rfl ?_
            exact ih M35 H locs ls a0 (x1 + (1 : Int32)) (x2 + (1 : Int32)) (hl.sub [3, 1, 0] rfl) hM hS h
  have b_start : ∀ (M : zM) (H : Heap) (locs : List Loc) (ls : Array Slot) (a0 : Nat), zL ls 4 [(0, .ref a0)] → zW ca D zcl A M H → va_S A s.heap H locs → w_X_readUnblocked M a0 post → W p l e rm_X_readUnblocked s m args below meth c H locs 0 0 Q (F0 m 0 ls []) := by
    intro M H locs ls a0 hl hM hS h
    unfold w_X_readUnblocked at h
    refine lv_iconst (v := (0 : Int32)) hx hb d_X_readUnblocked_0 (by decide) ?_
    refine z_istore_n hx hb d_X_readUnblocked_1 rfl hl (by decide) rfl (fun ls hl => ?_)
    have hl : zL ls 4 [(1, .int (0 : Int32)), (0, .ref a0)] := hl
    refine lv_iconst (v := (0 : Int32)) hx hb d_X_readUnblocked_2 (by decide) ?_
    refine z_istore_n hx hb d_X_readUnblocked_3 rfl hl (by decide) rfl (fun ls hl => ?_)
    have hl : zL ls 4 [(2, .int (0 : Int32)), (1, .int (0 : Int32)), (0, .ref a0)] := hl
    obtain ⟨n36, h⟩ := h
    exact b_4 n36 M H locs ls a0 (0 : Int32) (0 : Int32) (hl.sub [2, 1, 0] rfl) hM hS h
  exact b_start M s.heap [] ls a0 hl hM hS h
set_option maxHeartbeats 4000000 in
set_option maxRecDepth 100000 in
theorem c_X_insert (l : Launch) (ca : Nat → ClassId) (D : va_G) (M : zM) (sz : Nat) (a0 : Nat) (post : Int32 → zM → Prop) : Met l y_X_insert (Cond.code y_X_insert prog_1_method_8_code 1 (some .int) :: zws) rm_X_insert (zPre ca D zcl (ztys ca) [.ref a0] M sz (w_X_insert M a0 post)) (va_Qi post (zB ca D zcl (ztys ca) (zA M sz)) (zA M sz)) 0 0 (zA M sz) := by
  refine z_met (cc := prog_1_method_8_code) (maxL := 1) (ret := (some .int)) (plainFor_of_name (by decide)) rfl (by simp [Value.category]) (Nat.le_of_ble_eq_true rfl) ?_
  intro p e s m args below meth c ls A hx hb hr hlk hml hts hown hnm hK hN hl hA0 hM hS hA h
  rw [← hA0]
  have hW : ∀ w ∈ zws, w.before args s = true := fun w hw => hts w (List.mem_cons_of_mem _ hw)
  have hl : zL ls 1 [(0, .ref a0)] := hl
  generalize hQ : MQ below (va_Qi post (zB ca D zcl (ztys ca) A) A) args s 0 0 A = Q
  have b_start : ∀ (M : zM) (H : Heap) (locs : List Loc) (ls : Array Slot) (a0 : Nat), zL ls 1 [(0, .ref a0)] → zW ca D zcl A M H → va_S A s.heap H locs → w_X_insert M a0 post → W p l e rm_X_insert s m args below meth c H locs 0 0 Q (F0 m 0 ls []) := by
    intro M H locs ls a0 hl hM hS h
    unfold w_X_insert at h
    refine lv_aload_n hx hb d_X_insert_0 rfl (hl.at 0 rfl) ?_
    obtain ⟨t1, h⟩ := h
    refine z_getR hx hb hW in_8 hown hK hM t1 (by decide) rfl 1 (by decide) rfl (hW _ k_186) rfl d_X_insert_1 ?_
    obtain ⟨b2, hb3, h⟩ := h
    rw [hb3]
    obtain ⟨t4, h⟩ := h
    refine z_getI hx hb hW in_1 hown hK hM t4 (by decide) rfl 1 (by decide) rfl (hW _ k_150) rfl d_X_insert_4 ?_
    refine lv_aload_n hx hb d_X_insert_7 rfl (hl.at 0 rfl) ?_
    refine z_getR hx hb hW in_8 hown hK hM t1 (by decide) rfl 0 (by decide) rfl (hW _ k_185) rfl d_X_insert_8 ?_
    obtain ⟨b5, hb6, h⟩ := h
    rw [hb6]
    obtain ⟨t7, h⟩ := h
    refine z_getR hx hb hW in_5 hown hK hM t7 (by decide) rfl 1 (by decide) rfl (hW _ k_88) rfl d_X_insert_11 ?_
    obtain ⟨b8, hb9, h⟩ := h
    rw [hb9]
    obtain ⟨t10, h⟩ := h
    refine z_getI hx hb hW in_7 hown hK hM t10 (by decide) rfl 4 (by decide) rfl (hW _ k_61) rfl d_X_insert_14 ?_
    refine lv_icmp_lt (tgt := 22) hx hb d_X_insert_17 rfl (fun c11 => ?_) (fun c11 => ?_)
    · replace h := h.1 c11
      refine lv_aload_n hx hb d_X_insert_22 rfl (hl.at 0 rfl) ?_
      refine z_getR hx hb hW in_8 hown hK hM t1 (by decide) rfl 1 (by decide) rfl (hW _ k_186) rfl d_X_insert_23 ?_
      refine lv_dup hx hb d_X_insert_26 (z_cat _) ?_
      obtain ⟨b12, hb13, h⟩ := h
      rw [hb13]
      obtain ⟨t14, h⟩ := h
      refine z_getI hx hb hW in_1 hown hK hM t14 (by decide) rfl 1 (by decide) rfl (hW _ k_150) rfl d_X_insert_27 ?_
      refine lv_iconst (v := (1 : Int32)) hx hb d_X_insert_30 (by decide) ?_
      refine lv_iadd hx hb d_X_insert_31 ?_
      refine z_putI hx hb hW in_1 ty_1 tyok_1 nm_1 hown hK hM hS t14 (by decide) rfl 1 (by decide) rfl (hW _ k_150) rfl (Or.inl rfl) rfl rfl d_X_insert_32 (fun H locs hM hS => ?_)
      obtain ⟨M15, e16⟩ : ∃ z, z = zwI M b12 1 ((zI M b12 1) + (1 : Int32)) := ⟨_, rfl⟩
      replace h := h M15 e16
      rw [← e16] at hM
      refine lv_aload_n hx hb d_X_insert_35 rfl (hl.at 0 rfl) ?_
      have t17 : zT M15 a0 = some (8, 6) := by rw [e16]; exact t1
      refine z_cti (mc := 0) (ms := 0) (va_runV (As := []) (rest := []) ⟨hx, hb, hml, hown, hW⟩ (c_X_readUnblocked l ca D M15 H.size a0 _) (cw_X_readUnblocked hW k_482 ⟨by decide, by decide⟩) (zPre_V hK hN hM h t17 (by decide) rfl) rfl rfl hl.1.1 rfl (lv_room (Nat.le_of_ble_eq_true rfl)) d_X_insert_36 ⟨by decide, by decide⟩) hM hS hA (fun r18 M19 H locs h hM hS => ?_)
      refine W.widen (k := 0) (n := 0) (by decide) (by decide) ?_
      rw [← hQ]
      exact z_iret hx hb hr hlk hK hM hS h d_X_insert_39
    · replace h := h.2 c11
      refine lv_iconst (v := (-1 : Int32)) hx hb d_X_insert_20 (by decide) ?_
      rw [← hQ]
      exact z_iret hx hb hr hlk hK hM hS h d_X_insert_21
  exact b_start M s.heap [] ls a0 hl hM hS h
set_option maxHeartbeats 4000000 in
set_option maxRecDepth 100000 in
theorem c_X_endOutstanding (l : Launch) (ca : Nat → ClassId) (D : va_G) (M : zM) (sz : Nat) (a0 : Nat) (x1 : Int32) (x2 : Int32) (post : zM → Prop) : Met l y_X_endOutstanding (Cond.code y_X_endOutstanding prog_1_method_26_code 4 none :: zws) rm_X_endOutstanding (zPre ca D zcl (ztys ca) [.ref a0, .int x1, .int x2] M sz (w_X_endOutstanding M a0 x1 x2 post)) (va_Qv post (zB ca D zcl (ztys ca) (zA M sz)) (zA M sz)) 0 0 (zA M sz) := by
  refine z_met (cc := prog_1_method_26_code) (maxL := 4) (ret := none) (plainFor_of_name (by decide)) rfl (by simp [Value.category]) (Nat.le_of_ble_eq_true rfl) ?_
  intro p e s m args below meth c ls A hx hb hr hlk hml hts hown hnm hK hN hl hA0 hM hS hA h
  rw [← hA0]
  have hW : ∀ w ∈ zws, w.before args s = true := fun w hw => hts w (List.mem_cons_of_mem _ hw)
  have hl : zL ls 4 [(0, .ref a0), (1, .int x1), (2, .int x2)] := hl
  generalize hQ : MQ below (va_Qv post (zB ca D zcl (ztys ca) A) A) args s 0 0 A = Q
  have b_start : ∀ (M : zM) (H : Heap) (locs : List Loc) (ls : Array Slot) (a0 : Nat) (x1 : Int32) (x2 : Int32), zL ls 4 [(0, .ref a0), (1, .int x1), (2, .int x2)] → zW ca D zcl A M H → va_S A s.heap H locs → w_X_endOutstanding M a0 x1 x2 post → W p l e rm_X_endOutstanding s m args below meth c H locs 0 0 Q (F0 m 0 ls []) := by
    intro M H locs ls a0 x1 x2 hl hM hS h
    unfold w_X_endOutstanding at h
    refine lv_aload_n hx hb d_X_endOutstanding_0 rfl (hl.at 0 rfl) ?_
    refine lv_iload_n hx hb d_X_endOutstanding_1 rfl (hl.at 1 rfl) ?_
    obtain ⟨t1, h⟩ := h
    refine z_ctq (mc := 0) (ms := 0) (va_runV (As := [.int x1]) (rest := []) ⟨hx, hb, hml, hown, hW⟩ (c_X_requestAt l ca D M H.size a0 x1 _) (cw_X_requestAt hW k_312 ⟨by decide, by decide⟩) (zPre_V hK hN hM h t1 (by decide) rfl) rfl rfl hl.1.1 rfl (lv_room (Nat.le_of_ble_eq_true rfl)) d_X_endOutstanding_2 ⟨by decide, by decide⟩) hM hS hA (fun r2 M3 H locs h hM hS => ?_)
    refine z_astore_n (x := r2) hx hb d_X_endOutstanding_5 rfl hl (by decide) rfl (fun ls hl => ?_)
    have hl : zL ls 4 [(3, va_rf r2), (0, .ref a0), (1, .int x1), (2, .int x2)] := hl
    refine z_aload_n hx hb d_X_endOutstanding_6 rfl (hl.at 0 rfl) ?_
    cases r2 with
    | none =>
      replace h := h.1 rfl
      refine lv_ifnullN (tgt := 17) hx hb d_X_endOutstanding_7 rfl ?_
      refine W.widen (k := 0) (n := 0) (by decide) (by decide) ?_
      rw [← hQ]
      exact z_vret hx hb hr hlk hK hM hS h d_X_endOutstanding_17
    | some b4 =>
      replace h := h.2 b4 rfl
      refine lv_ifnull hx hb d_X_endOutstanding_7 ?_
      refine lv_aload_n hx hb d_X_endOutstanding_10 rfl (hl.at 0 rfl) ?_
      obtain ⟨t5, h⟩ := h
      refine z_getR hx hb hW in_3 hown hK hM t5 (by decide) rfl 11 (by decide) rfl (hW _ k_266) rfl d_X_endOutstanding_11 ?_
      cases hc25 : zR M3 b4 11 with
      | none =>
        replace h := h.1 hc25
        refine lv_ifnonnullN hx hb d_X_endOutstanding_14 ?_
        refine W.widen (k := 0) (n := 0) (by decide) (by decide) ?_
        rw [← hQ]
        exact z_vret hx hb hr hlk hK hM hS h d_X_endOutstanding_17
      | some b6 =>
        replace h := h.2 b6 hc25
        refine lv_ifnonnull (tgt := 18) hx hb d_X_endOutstanding_14 rfl ?_
        refine lv_aload_n hx hb d_X_endOutstanding_18 rfl (hl.at 0 rfl) ?_
        refine z_getR hx hb hW in_3 hown hK hM t5 (by decide) rfl 11 (by decide) rfl (hW _ k_266) rfl d_X_endOutstanding_19 ?_
        refine lv_iconst (v := (0 : Int32)) hx hb d_X_endOutstanding_22 (by decide) ?_
        obtain ⟨b7, hb8, h⟩ := h
        rw [hb8]
        obtain ⟨t9, h⟩ := h
        refine z_putI hx hb hW in_0 ty_0 tyok_0 nm_0 hown hK hM hS t9 (by decide) rfl 9 (by decide) rfl (hW _ k_354) rfl (Or.inl rfl) rfl rfl d_X_endOutstanding_23 (fun H locs hM hS => ?_)
        obtain ⟨M10, e11⟩ : ∃ z, z = zwI M3 b7 9 (0 : Int32) := ⟨_, rfl⟩
        replace h := h M10 e11
        rw [← e11] at hM
        refine lv_iload_n hx hb d_X_endOutstanding_26 rfl (hl.at 3 rfl) ?_
        refine lv_if_eq (tgt := 47) hx hb d_X_endOutstanding_27 rfl (fun c12 => ?_) (fun c12 => ?_)
        · replace h := h.1 c12
          refine W.widen (k := 0) (n := 0) (by decide) (by decide) ?_
          rw [← hQ]
          exact z_vret hx hb hr hlk hK hM hS h d_X_endOutstanding_47
        · replace h := h.2 c12
          refine lv_aload_n hx hb d_X_endOutstanding_30 rfl (hl.at 1 rfl) ?_
          obtain ⟨t13, h⟩ := h
          refine z_getR hx hb hW in_8 hown hK hM t13 (by decide) rfl 0 (by decide) rfl (hW _ k_185) rfl d_X_endOutstanding_31 ?_
          obtain ⟨b14, hb15, h⟩ := h
          rw [hb15]
          obtain ⟨t16, h⟩ := h
          refine z_getR hx hb hW in_5 hown hK hM t16 (by decide) rfl 1 (by decide) rfl (hW _ k_88) rfl d_X_endOutstanding_34 ?_
          refine lv_aload_n hx hb d_X_endOutstanding_37 rfl (hl.at 0 rfl) ?_
          have t17 : zT M10 b4 = some (3, 12) := by rw [e11]; exact t5
          refine z_getR hx hb hW in_3 hown hK hM t17 (by decide) rfl 11 (by decide) rfl (hW _ k_266) rfl d_X_endOutstanding_38 ?_
          obtain ⟨b18, hb19, h⟩ := h
          rw [hb19]
          obtain ⟨t20, h⟩ := h
          refine z_getI hx hb hW in_0 hown hK hM t20 (by decide) rfl 3 (by decide) rfl (hW _ k_343) rfl d_X_endOutstanding_41 ?_
          obtain ⟨b21, hb22, h⟩ := h
          rw [hb22]
          obtain ⟨t23, h⟩ := h
          refine z_ctv (mc := 0) (ms := 0) (va_runV (As := [.int (zI M10 b18 3)]) (rest := []) ⟨hx, hb, hml, hown, hW⟩ (c_T_learn l ca D M10 H.size b21 (zI M10 b18 3) _) (cw_T_learn hW k_509 ⟨by decide, by decide⟩) (zPre_V hK hN hM h t23 (by decide) rfl) rfl rfl hl.1.1 rfl (lv_room (Nat.le_of_ble_eq_true rfl)) d_X_endOutstanding_44 ⟨by decide, by decide⟩) hM hS hA (fun M24 H locs h hM hS => ?_)
          refine W.widen (k := 0) (n := 0) (by decide) (by decide) ?_
          rw [← hQ]
          exact z_vret hx hb hr hlk hK hM hS h d_X_endOutstanding_47
  exact b_start M s.heap [] ls a0 x1 x2 hl hM hS h
set_option maxHeartbeats 4000000 in
set_option maxRecDepth 100000 in
theorem c_X_feedback (l : Launch) (ca : Nat → ClassId) (D : va_G) (M : zM) (sz : Nat) (a0 : Nat) (post : Int32 → zM → Prop) : Met l y_X_feedback (Cond.code y_X_feedback prog_1_method_9_code 3 (some .int) :: zws) rm_X_feedback (zPre ca D zcl (ztys ca) [.ref a0] M sz (w_X_feedback M a0 post)) (va_Qi post (zB ca D zcl (ztys ca) (zA M sz)) (zA M sz)) 0 0 (zA M sz) := by
  refine z_met (cc := prog_1_method_9_code) (maxL := 3) (ret := (some .int)) (plainFor_of_name (by decide)) rfl (by simp [Value.category]) (Nat.le_of_ble_eq_true rfl) ?_
  intro p e s m args below meth c ls A hx hb hr hlk hml hts hown hnm hK hN hl hA0 hM hS hA h
  rw [← hA0]
  have hW : ∀ w ∈ zws, w.before args s = true := fun w hw => hts w (List.mem_cons_of_mem _ hw)
  have hl : zL ls 3 [(0, .ref a0)] := hl
  generalize hQ : MQ below (va_Qi post (zB ca D zcl (ztys ca) A) A) args s 0 0 A = Q
  have b_start : ∀ (M : zM) (H : Heap) (locs : List Loc) (ls : Array Slot) (a0 : Nat), zL ls 3 [(0, .ref a0)] → zW ca D zcl A M H → va_S A s.heap H locs → w_X_feedback M a0 post → W p l e rm_X_feedback s m args below meth c H locs 0 0 Q (F0 m 0 ls []) := by
    intro M H locs ls a0 hl hM hS h
    unfold w_X_feedback at h
    refine lv_aload_n hx hb d_X_feedback_0 rfl (hl.at 0 rfl) ?_
    obtain ⟨t1, h⟩ := h
    refine z_getR hx hb hW in_8 hown hK hM t1 (by decide) rfl 2 (by decide) rfl (hW _ k_187) rfl d_X_feedback_1 ?_
    obtain ⟨b2, hb3, h⟩ := h
    rw [hb3]
    obtain ⟨t4, h⟩ := h
    refine z_cti (mc := 0) (ms := 0) (va_runV (As := []) (rest := []) ⟨hx, hb, hml, hown, hW⟩ (c_F_nextKind l ca D M H.size b2 _) (cw_F_nextKind hW k_493 ⟨by decide, by decide⟩) (zPre_V hK hN hM h t4 (by decide) rfl) rfl rfl hl.1.1 rfl (lv_room (Nat.le_of_ble_eq_true rfl)) d_X_feedback_4 ⟨by decide, by decide⟩) hM hS hA (fun r5 M6 H locs h hM hS => ?_)
    refine z_istore_n hx hb d_X_feedback_7 rfl hl (by decide) rfl (fun ls hl => ?_)
    have hl : zL ls 3 [(1, .int r5), (0, .ref a0)] := hl
    refine lv_iload_n hx hb d_X_feedback_8 rfl (hl.at 0 rfl) ?_
    refine lv_iconst (v := (-1 : Int32)) hx hb d_X_feedback_9 (by decide) ?_
    refine lv_icmp_ne (tgt := 15) hx hb d_X_feedback_10 rfl (fun c7 => ?_) (fun c7 => ?_)
    · replace h := h.2 c7
      refine lv_aload_n hx hb d_X_feedback_15 rfl (hl.at 1 rfl) ?_
      obtain ⟨t8, h⟩ := h
      refine z_getR hx hb hW in_8 hown hK hM t8 (by decide) rfl 2 (by decide) rfl (hW _ k_187) rfl d_X_feedback_16 ?_
      obtain ⟨b9, hb10, h⟩ := h
      rw [hb10]
      obtain ⟨t11, h⟩ := h
      refine z_cti (mc := 0) (ms := 0) (va_runV (As := []) (rest := []) ⟨hx, hb, hml, hown, hW⟩ (c_F_nextNumber l ca D M6 H.size b9 _) (cw_F_nextNumber hW k_497 ⟨by decide, by decide⟩) (zPre_V hK hN hM h t11 (by decide) rfl) rfl rfl hl.1.1 rfl (lv_room (Nat.le_of_ble_eq_true rfl)) d_X_feedback_19 ⟨by decide, by decide⟩) hM hS hA (fun r12 M13 H locs h hM hS => ?_)
      refine z_istore_n hx hb d_X_feedback_22 rfl hl (by decide) rfl (fun ls hl => ?_)
      have hl : zL ls 3 [(2, .int r12), (1, .int r5), (0, .ref a0)] := hl
      refine lv_aload_n hx hb d_X_feedback_23 rfl (hl.at 2 rfl) ?_
      obtain ⟨t14, h⟩ := h
      refine z_getR hx hb hW in_8 hown hK hM t14 (by decide) rfl 2 (by decide) rfl (hW _ k_187) rfl d_X_feedback_24 ?_
      obtain ⟨b15, hb16, h⟩ := h
      rw [hb16]
      obtain ⟨t17, h⟩ := h
      refine z_ctv (mc := 0) (ms := 0) (va_runV (As := []) (rest := []) ⟨hx, hb, hml, hown, hW⟩ (c_F_moveOn l ca D M13 H.size b15 _) (cw_F_moveOn hW k_501 ⟨by decide, by decide⟩) (zPre_V hK hN hM h t17 (by decide) rfl) rfl rfl hl.1.1 rfl (lv_room (Nat.le_of_ble_eq_true rfl)) d_X_feedback_27 ⟨by decide, by decide⟩) hM hS hA (fun M18 H locs h hM hS => ?_)
      refine lv_iload_n hx hb d_X_feedback_30 rfl (hl.at 1 rfl) ?_
      refine lv_iconst (v := (2 : Int32)) hx hb d_X_feedback_31 (by decide) ?_
      refine lv_icmp_ne (tgt := 54) hx hb d_X_feedback_32 rfl (fun c19 => ?_) (fun c19 => ?_)
      · replace h := h.2 c19
        refine lv_aload_n hx hb d_X_feedback_54 rfl (hl.at 2 rfl) ?_
        refine lv_iload_n hx hb d_X_feedback_55 rfl (hl.at 0 rfl) ?_
        refine lv_iload_n hx hb d_X_feedback_56 rfl (hl.at 1 rfl) ?_
        refine lv_if_ne (tgt := 64) hx hb d_X_feedback_57 rfl (fun c20 => ?_) (fun c20 => ?_)
        · replace h := h.2 c20
          refine lv_iconst (v := (0 : Int32)) hx hb d_X_feedback_64 (by decide) ?_
          obtain ⟨t21, h⟩ := h
          refine z_ctv (mc := 0) (ms := 0) (va_runV (As := [.int r12, .int (0 : Int32)]) (rest := []) ⟨hx, hb, hml, hown, hW⟩ (c_X_endOutstanding l ca D M18 H.size a0 r12 (0 : Int32) _) (cw_X_endOutstanding hW k_505 ⟨by decide, by decide⟩) (zPre_V hK hN hM h t21 (by decide) rfl) rfl rfl hl.1.1 rfl (lv_room (Nat.le_of_ble_eq_true rfl)) d_X_feedback_65 ⟨by decide, by decide⟩) hM hS hA (fun M22 H locs h hM hS => ?_)
          refine lv_iload_n hx hb d_X_feedback_68 rfl (hl.at 1 rfl) ?_
          refine W.widen (k := 0) (n := 0) (by decide) (by decide) ?_
          rw [← hQ]
          exact z_iret hx hb hr hlk hK hM hS h d_X_feedback_69
        · replace h := h.1 c20
          refine lv_iconst (v := (1 : Int32)) hx hb d_X_feedback_60 (by decide) ?_
          refine lv_goto (tgt := 65) hx hb d_X_feedback_61 rfl ?_
          obtain ⟨t23, h⟩ := h
          refine z_ctv (mc := 0) (ms := 0) (va_runV (As := [.int r12, .int (1 : Int32)]) (rest := []) ⟨hx, hb, hml, hown, hW⟩ (c_X_endOutstanding l ca D M18 H.size a0 r12 (1 : Int32) _) (cw_X_endOutstanding hW k_505 ⟨by decide, by decide⟩) (zPre_V hK hN hM h t23 (by decide) rfl) rfl rfl hl.1.1 rfl (lv_room (Nat.le_of_ble_eq_true rfl)) d_X_feedback_65 ⟨by decide, by decide⟩) hM hS hA (fun M24 H locs h hM hS => ?_)
          refine lv_iload_n hx hb d_X_feedback_68 rfl (hl.at 1 rfl) ?_
          refine W.widen (k := 0) (n := 0) (by decide) (by decide) ?_
          rw [← hQ]
          exact z_iret hx hb hr hlk hK hM hS h d_X_feedback_69
      · replace h := h.1 c19
        refine lv_aload_n hx hb d_X_feedback_35 rfl (hl.at 2 rfl) ?_
        obtain ⟨t25, h⟩ := h
        refine z_getR hx hb hW in_8 hown hK hM t25 (by decide) rfl 0 (by decide) rfl (hW _ k_185) rfl d_X_feedback_36 ?_
        obtain ⟨b26, hb27, h⟩ := h
        rw [hb27]
        obtain ⟨t28, h⟩ := h
        refine z_getR hx hb hW in_5 hown hK hM t28 (by decide) rfl 1 (by decide) rfl (hW _ k_88) rfl d_X_feedback_39 ?_
        refine lv_dup hx hb d_X_feedback_42 (z_cat _) ?_
        obtain ⟨b29, hb30, h⟩ := h
        rw [hb30]
        obtain ⟨t31, h⟩ := h
        refine z_getI hx hb hW in_7 hown hK hM t31 (by decide) rfl 5 (by decide) rfl (hW _ k_63) rfl d_X_feedback_43 ?_
        refine lv_iload_n hx hb d_X_feedback_46 rfl (hl.at 0 rfl) ?_
        refine lv_iadd hx hb d_X_feedback_47 ?_
        refine z_putI hx hb hW in_7 ty_7 tyok_7 nm_7 hown hK hM hS t31 (by decide) rfl 5 (by decide) rfl (hW _ k_63) rfl (Or.inl rfl) rfl rfl d_X_feedback_48 (fun H locs hM hS => ?_)
        obtain ⟨M32, e33⟩ : ∃ z, z = zwI M18 b29 5 ((zI M18 b29 5) + r12) := ⟨_, rfl⟩
        replace h := h M32 e33
        rw [← e33] at hM
        refine lv_goto (tgt := 68) hx hb d_X_feedback_51 rfl ?_
        refine lv_iload_n hx hb d_X_feedback_68 rfl (hl.at 1 rfl) ?_
        refine W.widen (k := 0) (n := 0) (by decide) (by decide) ?_
        rw [← hQ]
        exact z_iret hx hb hr hlk hK hM hS h d_X_feedback_69
    · replace h := h.1 c7
      refine lv_iconst (v := (-1 : Int32)) hx hb d_X_feedback_13 (by decide) ?_
      refine W.widen (k := 0) (n := 0) (by decide) (by decide) ?_
      rw [← hQ]
      exact z_iret hx hb hr hlk hK hM hS h d_X_feedback_14
  exact b_start M s.heap [] ls a0 hl hM hS h
set_option maxHeartbeats 4000000 in
set_option maxRecDepth 100000 in
theorem c_X_report (l : Launch) (ca : Nat → ClassId) (D : va_G) (M : zM) (sz : Nat) (a0 : Nat) (post : Int32 → zM → Prop) : Met l y_X_report (Cond.code y_X_report prog_1_method_10_code 2 (some .boolean) :: zws) rm_X_report (zPre ca D zcl (ztys ca) [.ref a0] M sz (w_X_report M a0 post)) (va_Qi post (zB ca D zcl (ztys ca) (zA M sz)) (zA M sz)) 0 0 (zA M sz) := by
  refine z_met (cc := prog_1_method_10_code) (maxL := 2) (ret := (some .boolean)) (plainFor_of_name (by decide)) rfl (by simp [Value.category]) (Nat.le_of_ble_eq_true rfl) ?_
  intro p e s m args below meth c ls A hx hb hr hlk hml hts hown hnm hK hN hl hA0 hM hS hA h
  rw [← hA0]
  have hW : ∀ w ∈ zws, w.before args s = true := fun w hw => hts w (List.mem_cons_of_mem _ hw)
  have hl : zL ls 2 [(0, .ref a0)] := hl
  generalize hQ : MQ below (va_Qi post (zB ca D zcl (ztys ca) A) A) args s 0 0 A = Q
  have b_start : ∀ (M : zM) (H : Heap) (locs : List Loc) (ls : Array Slot) (a0 : Nat), zL ls 2 [(0, .ref a0)] → zW ca D zcl A M H → va_S A s.heap H locs → w_X_report M a0 post → W p l e rm_X_report s m args below meth c H locs 0 0 Q (F0 m 0 ls []) := by
    intro M H locs ls a0 hl hM hS h
    unfold w_X_report at h
    refine lv_aload_n hx hb d_X_report_0 rfl (hl.at 0 rfl) ?_
    obtain ⟨t1, h⟩ := h
    refine z_getR hx hb hW in_8 hown hK hM t1 (by decide) rfl 1 (by decide) rfl (hW _ k_186) rfl d_X_report_1 ?_
    obtain ⟨b2, hb3, h⟩ := h
    rw [hb3]
    obtain ⟨t4, h⟩ := h
    refine z_getI hx hb hW in_1 hown hK hM t4 (by decide) rfl 1 (by decide) rfl (hW _ k_150) rfl d_X_report_4 ?_
    refine lv_aload_n hx hb d_X_report_7 rfl (hl.at 0 rfl) ?_
    refine z_getR hx hb hW in_8 hown hK hM t1 (by decide) rfl 1 (by decide) rfl (hW _ k_186) rfl d_X_report_8 ?_
    obtain ⟨b5, hb6, h⟩ := h
    rw [hb6]
    obtain ⟨t7, h⟩ := h
    refine z_getI hx hb hW in_1 hown hK hM t7 (by decide) rfl 2 (by decide) rfl (hW _ k_152) rfl d_X_report_11 ?_
    refine lv_isub hx hb d_X_report_14 ?_
    refine z_istore_n hx hb d_X_report_15 rfl hl (by decide) rfl (fun ls hl => ?_)
    have hl : zL ls 2 [(1, .int ((zI M b2 1) - (zI M b5 2))), (0, .ref a0)] := hl
    refine lv_iload_n hx hb d_X_report_16 rfl (hl.at 0 rfl) ?_
    refine lv_if_gt (tgt := 22) hx hb d_X_report_17 rfl (fun c8 => ?_) (fun c8 => ?_)
    · replace h := h.1 c8
      refine lv_aload_n hx hb d_X_report_22 rfl (hl.at 1 rfl) ?_
      refine z_getR hx hb hW in_8 hown hK hM t1 (by decide) rfl 2 (by decide) rfl (hW _ k_187) rfl d_X_report_23 ?_
      refine lv_iconst (v := (2 : Int32)) hx hb d_X_report_26 (by decide) ?_
      refine lv_iload_n hx hb d_X_report_27 rfl (hl.at 0 rfl) ?_
      obtain ⟨b9, hb10, h⟩ := h
      rw [hb10]
      obtain ⟨t11, h⟩ := h
      refine z_ctv (mc := 0) (ms := 0) (va_runV (As := [.int (2 : Int32), .int ((zI M b2 1) - (zI M b5 2))]) (rest := []) ⟨hx, hb, hml, hown, hW⟩ (c_F_append l ca D M H.size b9 (2 : Int32) ((zI M b2 1) - (zI M b5 2)) _) (cw_F_append hW k_518 ⟨by decide, by decide⟩) (zPre_V hK hN hM h t11 (by decide) rfl) rfl rfl hl.1.1 rfl (lv_room (Nat.le_of_ble_eq_true rfl)) d_X_report_28 ⟨by decide, by decide⟩) hM hS hA (fun M12 H locs h hM hS => ?_)
      refine lv_aload_n hx hb d_X_report_31 rfl (hl.at 1 rfl) ?_
      obtain ⟨t13, h⟩ := h
      refine z_getR hx hb hW in_8 hown hK hM t13 (by decide) rfl 1 (by decide) rfl (hW _ k_186) rfl d_X_report_32 ?_
      refine lv_aload_n hx hb d_X_report_35 rfl (hl.at 1 rfl) ?_
      refine z_getR hx hb hW in_8 hown hK hM t13 (by decide) rfl 1 (by decide) rfl (hW _ k_186) rfl d_X_report_36 ?_
      obtain ⟨b14, hb15, h⟩ := h
      rw [hb15]
      obtain ⟨t16, h⟩ := h
      refine z_getI hx hb hW in_1 hown hK hM t16 (by decide) rfl 1 (by decide) rfl (hW _ k_150) rfl d_X_report_39 ?_
      refine z_putI hx hb hW in_1 ty_1 tyok_1 nm_1 hown hK hM hS t16 (by decide) rfl 2 (by decide) rfl (hW _ k_152) rfl (Or.inl rfl) rfl rfl d_X_report_42 (fun H locs hM hS => ?_)
      obtain ⟨M17, e18⟩ : ∃ z, z = zwI M12 b14 2 (zI M12 b14 1) := ⟨_, rfl⟩
      replace h := h M17 e18
      rw [← e18] at hM
      refine lv_iconst (v := (1 : Int32)) hx hb d_X_report_45 (by decide) ?_
      refine W.widen (k := 0) (n := 0) (by decide) (by decide) ?_
      rw [← hQ]
      exact z_zret hx hb hr hlk rfl hK hM hS h d_X_report_46
    · replace h := h.2 c8
      refine lv_iconst (v := (0 : Int32)) hx hb d_X_report_20 (by decide) ?_
      rw [← hQ]
      exact z_zret hx hb hr hlk rfl hK hM hS h d_X_report_21
  exact b_start M s.heap [] ls a0 hl hM hS h
set_option maxHeartbeats 4000000 in
set_option maxRecDepth 100000 in
theorem c_X_goaway (l : Launch) (ca : Nat → ClassId) (D : va_G) (M : zM) (sz : Nat) (a0 : Nat) (post : Int32 → zM → Prop) : Met l y_X_goaway (Cond.code y_X_goaway prog_1_method_11_code 1 (some .int) :: zws) rm_X_goaway (zPre ca D zcl (ztys ca) [.ref a0] M sz (w_X_goaway M a0 post)) (va_Qi post (zB ca D zcl (ztys ca) (zA M sz)) (zA M sz)) 0 0 (zA M sz) := by
  refine z_met (cc := prog_1_method_11_code) (maxL := 1) (ret := (some .int)) (plainFor_of_name (by decide)) rfl (by simp [Value.category]) (Nat.le_of_ble_eq_true rfl) ?_
  intro p e s m args below meth c ls A hx hb hr hlk hml hts hown hnm hK hN hl hA0 hM hS hA h
  rw [← hA0]
  have hW : ∀ w ∈ zws, w.before args s = true := fun w hw => hts w (List.mem_cons_of_mem _ hw)
  have hl : zL ls 1 [(0, .ref a0)] := hl
  generalize hQ : MQ below (va_Qi post (zB ca D zcl (ztys ca) A) A) args s 0 0 A = Q
  have b_start : ∀ (M : zM) (H : Heap) (locs : List Loc) (ls : Array Slot) (a0 : Nat), zL ls 1 [(0, .ref a0)] → zW ca D zcl A M H → va_S A s.heap H locs → w_X_goaway M a0 post → W p l e rm_X_goaway s m args below meth c H locs 0 0 Q (F0 m 0 ls []) := by
    intro M H locs ls a0 hl hM hS h
    unfold w_X_goaway at h
    refine lv_aload_n hx hb d_X_goaway_0 rfl (hl.at 0 rfl) ?_
    obtain ⟨t1, h⟩ := h
    refine z_getR hx hb hW in_8 hown hK hM t1 (by decide) rfl 0 (by decide) rfl (hW _ k_185) rfl d_X_goaway_1 ?_
    obtain ⟨b2, hb3, h⟩ := h
    rw [hb3]
    obtain ⟨t4, h⟩ := h
    refine z_ctv (mc := 0) (ms := 0) (va_runV (As := []) (rest := []) ⟨hx, hb, hml, hown, hW⟩ (c_S_announceLimit l ca D M H.size b2 _) (cw_S_announceLimit hW k_523 ⟨by decide, by decide⟩) (zPre_V hK hN hM h t4 (by decide) rfl) rfl rfl hl.1.1 rfl (lv_room (Nat.le_of_ble_eq_true rfl)) d_X_goaway_4 ⟨by decide, by decide⟩) hM hS hA (fun M5 H locs h hM hS => ?_)
    refine lv_aload_n hx hb d_X_goaway_7 rfl (hl.at 0 rfl) ?_
    obtain ⟨t6, h⟩ := h
    refine z_getR hx hb hW in_8 hown hK hM t6 (by decide) rfl 0 (by decide) rfl (hW _ k_185) rfl d_X_goaway_8 ?_
    obtain ⟨b7, hb8, h⟩ := h
    rw [hb8]
    obtain ⟨t9, h⟩ := h
    refine z_getI hx hb hW in_5 hown hK hM t9 (by decide) rfl 5 (by decide) rfl (hW _ k_94) rfl d_X_goaway_11 ?_
    refine W.widen (k := 0) (n := 0) (by decide) (by decide) ?_
    rw [← hQ]
    exact z_iret hx hb hr hlk hK hM hS h d_X_goaway_14
  exact b_start M s.heap [] ls a0 hl hM hS h
set_option maxHeartbeats 4000000 in
set_option maxRecDepth 100000 in
theorem c_X_refuseFrom (l : Launch) (ca : Nat → ClassId) (D : va_G) (M : zM) (sz : Nat) (a0 : Nat) (x1 : Int32) (post : Int32 → zM → Prop) : Met l y_X_refuseFrom (Cond.code y_X_refuseFrom prog_1_method_27_code 5 (some .int) :: zws) rm_X_refuseFrom (zPre ca D zcl (ztys ca) [.ref a0, .int x1] M sz (w_X_refuseFrom M a0 x1 post)) (va_Qi post (zB ca D zcl (ztys ca) (zA M sz)) (zA M sz)) 0 0 (zA M sz) := by
  refine z_met (cc := prog_1_method_27_code) (maxL := 5) (ret := (some .int)) (plainFor_of_name (by decide)) rfl (by simp [Value.category]) (Nat.le_of_ble_eq_true rfl) ?_
  intro p e s m args below meth c ls A hx hb hr hlk hml hts hown hnm hK hN hl hA0 hM hS hA h
  rw [← hA0]
  have hW : ∀ w ∈ zws, w.before args s = true := fun w hw => hts w (List.mem_cons_of_mem _ hw)
  have hl : zL ls 5 [(0, .ref a0), (1, .int x1)] := hl
  generalize hQ : MQ below (va_Qi post (zB ca D zcl (ztys ca) A) A) args s 0 0 A = Q
  have b_4 : ∀ (n : Nat) (M : zM) (H : Heap) (locs : List Loc) (ls : Array Slot) (a0 : Nat) (x1 : Int32) (x2 : Int32) (x3 : Int32), zL ls 5 [(0, .ref a0), (1, .int x1), (2, .int x2), (3, .int x3)] → zW ca D zcl A M H → va_S A s.heap H locs → w_X_refuseFrom_4 post n M a0 x1 x2 x3 → W p l e rm_X_refuseFrom s m args below meth c H locs 0 0 Q (F0 m 4 ls []) := by
    intro n
    induction n with
    | zero =>
      intro M H locs ls a0 x1 x2 x3 hl hM hS h
      exact False.elim h
    | succ n ih =>
      intro M H locs ls a0 x1 x2 x3 hl hM hS h
      rw [w_X_refuseFrom_4] at h
      refine lv_iload_n hx hb d_X_refuseFrom_4 rfl (hl.at 3 rfl) ?_
      refine lv_aload_n hx hb d_X_refuseFrom_5 rfl (hl.at 0 rfl) ?_
      obtain ⟨t1, h⟩ := h
      refine z_getI hx hb hW in_8 hown hK hM t1 (by decide) rfl 4 (by decide) rfl (hW _ k_189) rfl d_X_refuseFrom_6 ?_
      refine lv_icmp_ge (tgt := 55) hx hb d_X_refuseFrom_9 rfl (fun c2 => ?_) (fun c2 => ?_)
      · replace h := h.1 c2
        refine lv_iload_n hx hb d_X_refuseFrom_55 rfl (hl.at 2 rfl) ?_
        rw [← hQ]
        exact z_iret hx hb hr hlk hK hM hS h d_X_refuseFrom_56
      · replace h := h.2 c2
        refine lv_aload_n hx hb d_X_refuseFrom_12 rfl (hl.at 0 rfl) ?_
        refine lv_iload_n hx hb d_X_refuseFrom_13 rfl (hl.at 3 rfl) ?_
        refine z_ctq (mc := 0) (ms := 0) (va_runV (As := [.int x3]) (rest := []) ⟨hx, hb, hml, hown, hW⟩ (c_X_requestAt l ca D M H.size a0 x3 _) (cw_X_requestAt hW k_312 ⟨by decide, by decide⟩) (zPre_V hK hN hM h t1 (by decide) rfl) rfl rfl hl.1.1 rfl (lv_room (Nat.le_of_ble_eq_true rfl)) d_X_refuseFrom_14 ⟨by decide, by decide⟩) hM hS hA (fun r3 M4 H locs h hM hS => ?_)
        refine z_astore (x := r3) hx hb d_X_refuseFrom_17 hl (by decide) rfl (fun ls hl => ?_)
        have hl : zL ls 5 [(4, va_rf r3), (0, .ref a0), (1, .int x1), (2, .int x2), (3, .int x3)] := hl
        refine z_aload hx hb d_X_refuseFrom_19 (hl.at 0 rfl) ?_
        cases r3 with
        | none =>
          replace h := h.1 rfl
          refine lv_ifnullN (tgt := 49) hx hb d_X_refuseFrom_21 rfl ?_
          refine z_iinc (k := 4) (v := x3 + (1 : Int32)) hx hb d_X_refuseFrom_49 hl rfl rfl (by decide) rfl (fun ls hl => ?_)
          have hl : zL ls 5 [(3, .int (x3 + (1 : Int32))), (4, va_rf none), (0, .ref a0), (1, .int x1), (2, .int x2)] := hl
          refine lv_goto (tgt := 4) hx hb d_X_refuseFrom_52 rfl ?_
          exact ih M4 H locs ls a0 x1 x2 (x3 + (1 : Int32)) (hl.sub [2, 3, 4, 0] rfl) hM hS h
        | some b5 =>
          replace h := h.2 b5 rfl
          refine lv_ifnull hx hb d_X_refuseFrom_21 ?_
          refine lv_aload hx hb d_X_refuseFrom_24 (hl.at 0 rfl) ?_
          obtain ⟨t6, h⟩ := h
          refine z_getI hx hb hW in_3 hown hK hM t6 (by decide) rfl 9 (by decide) rfl (hW _ k_262) rfl d_X_refuseFrom_26 ?_
          refine lv_if_ne (tgt := 49) hx hb d_X_refuseFrom_29 rfl (fun c7 => ?_) (fun c7 => ?_)
          · replace h := h.2 c7
            refine z_iinc (k := 4) (v := x3 + (1 : Int32)) hx hb d_X_refuseFrom_49 hl rfl rfl (by decide) rfl (fun ls hl => ?_)
            have hl : zL ls 5 [(3, .int (x3 + (1 : Int32))), (4, .ref b5), (0, .ref a0), (1, .int x1), (2, .int x2)] := hl
            refine lv_goto (tgt := 4) hx hb d_X_refuseFrom_52 rfl ?_
            exact ih M4 H locs ls a0 x1 x2 (x3 + (1 : Int32)) (hl.sub [2, 3, 4, 0] rfl) hM hS h
          · replace h := h.1 c7
            refine lv_aload hx hb d_X_refuseFrom_32 (hl.at 0 rfl) ?_
            refine lv_bipush (v := (7 : Int32)) hx hb d_X_refuseFrom_34 (by decide) ?_
            refine lv_iconst (v := (0 : Int32)) hx hb d_X_refuseFrom_36 (by decide) ?_
            refine z_ctv (mc := 0) (ms := 0) (va_runV (As := [.int (7 : Int32), .int (0 : Int32)]) (rest := []) ⟨hx, hb, hml, hown, hW⟩ (c_Q_settle l ca D M4 H.size b5 (7 : Int32) (0 : Int32) _) (cw_Q_settle hW k_535 ⟨by decide, by decide⟩) (zPre_V hK hN hM h t6 (by decide) rfl) rfl rfl hl.1.1 rfl (lv_room (Nat.le_of_ble_eq_true rfl)) d_X_refuseFrom_37 ⟨by decide, by decide⟩) hM hS hA (fun M8 H locs h hM hS => ?_)
            refine lv_aload hx hb d_X_refuseFrom_40 (hl.at 0 rfl) ?_
            refine lv_iconst (v := (0 : Int32)) hx hb d_X_refuseFrom_42 (by decide) ?_
            obtain ⟨t9, h⟩ := h
            refine z_putI hx hb hW in_3 ty_3 tyok_3 nm_3 hown hK hM hS t9 (by decide) rfl 8 (by decide) rfl (hW _ k_260) rfl (Or.inl rfl) rfl rfl d_X_refuseFrom_43 (fun H locs hM hS => ?_)
            obtain ⟨M10, e11⟩ : ∃ z, z = zwI M8 b5 8 (0 : Int32) := ⟨_, rfl⟩
            replace h := h M10 e11
            rw [← e11] at hM
            refine z_iinc (k := 3) (v := x2 + (1 : Int32)) hx hb d_X_refuseFrom_46 hl rfl rfl (by decide) rfl (fun ls hl => ?_)
            have hl : zL ls 5 [(2, .int (x2 + (1 : Int32))), (4, .ref b5), (0, .ref a0), (1, .int x1), (3, .int x3)] := hl
            refine z_iinc (k := 4) (v := x3 + (1 : Int32)) hx hb d_X_refuseFrom_49 hl rfl rfl (by decide) rfl (fun ls hl => ?_)
            have hl : zL ls 5 [(3, .int (x3 + (1 : Int32))), (2, .int (x2 + (1 : Int32))), (4, .ref b5), (0, .ref a0), (1, .int x1)] := hl
            refine lv_goto (tgt := 4) hx hb d_X_refuseFrom_52 rfl ?_
            exact ih M10 H locs ls a0 x1 (x2 + (1 : Int32)) (x3 + (1 : Int32)) (hl.sub [3, 4, 1, 0] rfl) hM hS h
  have b_start : ∀ (M : zM) (H : Heap) (locs : List Loc) (ls : Array Slot) (a0 : Nat) (x1 : Int32), zL ls 5 [(0, .ref a0), (1, .int x1)] → zW ca D zcl A M H → va_S A s.heap H locs → w_X_refuseFrom M a0 x1 post → W p l e rm_X_refuseFrom s m args below meth c H locs 0 0 Q (F0 m 0 ls []) := by
    intro M H locs ls a0 x1 hl hM hS h
    unfold w_X_refuseFrom at h
    refine lv_iconst (v := (0 : Int32)) hx hb d_X_refuseFrom_0 (by decide) ?_
    refine z_istore_n hx hb d_X_refuseFrom_1 rfl hl (by decide) rfl (fun ls hl => ?_)
    have hl : zL ls 5 [(2, .int (0 : Int32)), (0, .ref a0), (1, .int x1)] := hl
    refine lv_iload_n hx hb d_X_refuseFrom_2 rfl (hl.at 2 rfl) ?_
    refine z_istore_n hx hb d_X_refuseFrom_3 rfl hl (by decide) rfl (fun ls hl => ?_)
    have hl : zL ls 5 [(3, .int x1), (2, .int (0 : Int32)), (0, .ref a0), (1, .int x1)] := hl
    obtain ⟨n13, h⟩ := h
    exact b_4 n13 M H locs ls a0 x1 (0 : Int32) x1 (hl.sub [2, 3, 1, 0] rfl) hM hS h
  exact b_start M s.heap [] ls a0 x1 hl hM hS h
