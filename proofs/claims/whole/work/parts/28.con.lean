set_option maxHeartbeats 4000000 in
set_option maxRecDepth 100000 in
theorem c_Y_decide (l : Launch) (ca : Nat → ClassId) (D : va_G) (M : zM) (sz : Nat) (a0 : Nat) (x1 : Int32) (post : Int32 → zM → Prop) : Met l y_Y_decide (Cond.code y_Y_decide prog_11_method_14_code 3 (some .int) :: zws) rm_Y_decide (zPre ca D zcl (ztys ca) [.ref a0, .int x1] M sz (w_Y_decide M a0 x1 post)) (va_Qi post (zB ca D zcl (ztys ca) (zA M sz)) (zA M sz)) 0 0 (zA M sz) := by
  refine z_met (cc := prog_11_method_14_code) (maxL := 3) (ret := (some .int)) (plainFor_of_name (by decide)) rfl (by simp [Value.category]) (Nat.le_of_ble_eq_true rfl) ?_
  intro p e s m args below meth c ls A hx hb hr hlk hml hts hown hnm hK hN hl hA0 hM hS hA h
  rw [← hA0]
  have hW : ∀ w ∈ zws, w.before args s = true := fun w hw => hts w (List.mem_cons_of_mem _ hw)
  have hl : zL ls 3 [(0, .ref a0), (1, .int x1)] := hl
  generalize hQ : MQ below (va_Qi post (zB ca D zcl (ztys ca) A) A) args s 0 0 A = Q
  have b_93 : ∀ (M : zM) (H : Heap) (locs : List Loc) (ls : Array Slot) (a0 : Nat) (x1 : Int32) (x2 : Int32), zL ls 3 [(0, .ref a0), (1, .int x1), (2, .int x2)] → zW ca D zcl A M H → va_S A s.heap H locs → w_Y_decide_93 post M a0 x1 x2 → W p l e rm_Y_decide s m args below meth c H locs 0 0 Q (F0 m 93 ls []) := by
    intro M H locs ls a0 x1 x2 hl hM hS h
    unfold w_Y_decide_93 at h
    refine lv_aload_n hx hb d_Y_decide_93 rfl (hl.at 0 rfl) ?_
    refine lv_iload_n hx hb d_Y_decide_94 rfl (hl.at 2 rfl) ?_
    refine lv_aload_n hx hb d_Y_decide_95 rfl (hl.at 0 rfl) ?_
    obtain ⟨t19, h⟩ := h
    refine z_getR hx hb hW in_9 hown hK hM t19 (by decide) rfl 10 (by decide) rfl (hW _ k_595) rfl d_Y_decide_96 ?_
    refine lv_iload_n hx hb d_Y_decide_99 rfl (hl.at 1 rfl) ?_
    obtain ⟨b20, hb21, h⟩ := h
    rw [hb21]
    obtain ⟨n23, t22, h⟩ := h
    obtain ⟨i24, h⟩ := h
    refine z_iald hx hb hK hM t22 0 rfl i24 d_Y_decide_100 ?_
    refine lv_aload_n hx hb d_Y_decide_101 rfl (hl.at 0 rfl) ?_
    refine z_getR hx hb hW in_9 hown hK hM t19 (by decide) rfl 11 (by decide) rfl (hW _ k_596) rfl d_Y_decide_102 ?_
    refine lv_iload_n hx hb d_Y_decide_105 rfl (hl.at 1 rfl) ?_
    obtain ⟨b25, hb26, h⟩ := h
    rw [hb26]
    obtain ⟨n28, t27, h⟩ := h
    obtain ⟨i29, h⟩ := h
    refine z_iald hx hb hK hM t27 0 rfl i29 d_Y_decide_106 ?_
    refine z_cti (mc := 0) (ms := 0) (va_runV (As := [.int x2, .int (zI M b20 x1.toNatClampNeg), .int (zI M b25 x1.toNatClampNeg)]) (rest := []) ⟨hx, hb, hml, hown, hW⟩ (c_Y_write l ca D M H.size a0 x2 (zI M b20 x1.toNatClampNeg) (zI M b25 x1.toNatClampNeg) _) (cw_Y_write hW k_714 ⟨by decide, by decide⟩) (zPre_V hK hN hM h t19 (by decide) rfl) rfl rfl hl.1.1 rfl (lv_room (Nat.le_of_ble_eq_true rfl)) d_Y_decide_107 ⟨by decide, by decide⟩) hM hS hA (fun r30 M31 H locs h hM hS => ?_)
    refine lv_pop hx hb d_Y_decide_110 rfl ?_
    refine lv_sipush (v := (200 : Int32)) hx hb d_Y_decide_111 (by decide) ?_
    refine W.widen (k := 0) (n := 0) (by decide) (by decide) ?_
    rw [← hQ]
    exact z_iret hx hb hr hlk hK hM hS h d_Y_decide_114
  have b_start : ∀ (M : zM) (H : Heap) (locs : List Loc) (ls : Array Slot) (a0 : Nat) (x1 : Int32), zL ls 3 [(0, .ref a0), (1, .int x1)] → zW ca D zcl A M H → va_S A s.heap H locs → w_Y_decide M a0 x1 post → W p l e rm_Y_decide s m args below meth c H locs 0 0 Q (F0 m 0 ls []) := by
    intro M H locs ls a0 x1 hl hM hS h
    unfold w_Y_decide at h
    refine lv_aload_n hx hb d_Y_decide_0 rfl (hl.at 0 rfl) ?_
    obtain ⟨t1, h⟩ := h
    refine z_getR hx hb hW in_9 hown hK hM t1 (by decide) rfl 8 (by decide) rfl (hW _ k_593) rfl d_Y_decide_1 ?_
    refine lv_iload_n hx hb d_Y_decide_4 rfl (hl.at 1 rfl) ?_
    obtain ⟨b2, hb3, h⟩ := h
    rw [hb3]
    obtain ⟨n5, t4, h⟩ := h
    obtain ⟨i6, h⟩ := h
    refine z_iald hx hb hK hM t4 0 rfl i6 d_Y_decide_5 ?_
    refine z_istore_n hx hb d_Y_decide_6 rfl hl (by decide) rfl (fun ls hl => ?_)
    have hl : zL ls 3 [(2, .int (zI M b2 x1.toNatClampNeg)), (0, .ref a0), (1, .int x1)] := hl
    refine lv_aload_n hx hb d_Y_decide_7 rfl (hl.at 1 rfl) ?_
    refine z_getR hx hb hW in_9 hown hK hM t1 (by decide) rfl 7 (by decide) rfl (hW _ k_592) rfl d_Y_decide_8 ?_
    refine lv_iload_n hx hb d_Y_decide_11 rfl (hl.at 2 rfl) ?_
    obtain ⟨b7, hb8, h⟩ := h
    rw [hb8]
    obtain ⟨n10, t9, h⟩ := h
    obtain ⟨i11, h⟩ := h
    refine z_zald hx hb hK hM t9 1 rfl i11 d_Y_decide_12 ?_
    refine lv_if_ne (tgt := 56) hx hb d_Y_decide_13 rfl (fun c12 => ?_) (fun c12 => ?_)
    · replace h := h.2 c12
      refine lv_aload_n hx hb d_Y_decide_56 rfl (hl.at 1 rfl) ?_
      refine z_getR hx hb hW in_9 hown hK hM t1 (by decide) rfl 12 (by decide) rfl (hW _ k_597) rfl d_Y_decide_57 ?_
      refine lv_iload_n hx hb d_Y_decide_60 rfl (hl.at 2 rfl) ?_
      obtain ⟨b13, hb14, h⟩ := h
      rw [hb14]
      obtain ⟨n16, t15, h⟩ := h
      obtain ⟨i17, h⟩ := h
      refine z_iald hx hb hK hM t15 0 rfl i17 d_Y_decide_61 ?_
      refine lv_if_le (tgt := 93) hx hb d_Y_decide_62 rfl (fun c18 => ?_) (fun c18 => ?_)
      · replace h := h.1 c18
        exact b_93 M H locs ls a0 x1 (zI M b2 x1.toNatClampNeg) (hl.sub [1, 2, 0] rfl) hM hS h
      · replace h := h.2 c18
        refine lv_aload_n hx hb d_Y_decide_65 rfl (hl.at 1 rfl) ?_
        refine z_getR hx hb hW in_9 hown hK hM t1 (by decide) rfl 0 (by decide) rfl (hW _ k_585) rfl d_Y_decide_66 ?_
        refine lv_iload_n hx hb d_Y_decide_69 rfl (hl.at 0 rfl) ?_
        obtain ⟨b32, hb33, h⟩ := h
        rw [hb33]
        obtain ⟨n35, t34, h⟩ := h
        obtain ⟨i36, h⟩ := h
        refine z_zald hx hb hK hM t34 1 rfl i36 d_Y_decide_70 ?_
        refine lv_if_eq (tgt := 89) hx hb d_Y_decide_71 rfl (fun c37 => ?_) (fun c37 => ?_)
        · replace h := h.1 c37
          refine lv_sipush (v := (412 : Int32)) hx hb d_Y_decide_89 (by decide) ?_
          rw [← hQ]
          exact z_iret hx hb hr hlk hK hM hS h d_Y_decide_92
        · replace h := h.2 c37
          refine lv_aload_n hx hb d_Y_decide_74 rfl (hl.at 1 rfl) ?_
          refine z_getR hx hb hW in_9 hown hK hM t1 (by decide) rfl 3 (by decide) rfl (hW _ k_588) rfl d_Y_decide_75 ?_
          refine lv_iload_n hx hb d_Y_decide_78 rfl (hl.at 0 rfl) ?_
          obtain ⟨b38, hb39, h⟩ := h
          rw [hb39]
          obtain ⟨n41, t40, h⟩ := h
          obtain ⟨i42, h⟩ := h
          refine z_iald hx hb hK hM t40 0 rfl i42 d_Y_decide_79 ?_
          refine lv_aload_n hx hb d_Y_decide_80 rfl (hl.at 1 rfl) ?_
          refine z_getR hx hb hW in_9 hown hK hM t1 (by decide) rfl 12 (by decide) rfl (hW _ k_597) rfl d_Y_decide_81 ?_
          refine lv_iload_n hx hb d_Y_decide_84 rfl (hl.at 2 rfl) ?_
          obtain ⟨b43, hb44, h⟩ := h
          rw [hb44]
          obtain ⟨n46, t45, h⟩ := h
          obtain ⟨i47, h⟩ := h
          refine z_iald hx hb hK hM t45 0 rfl i47 d_Y_decide_85 ?_
          refine lv_icmp_eq (tgt := 93) hx hb d_Y_decide_86 rfl (fun c48 => ?_) (fun c48 => ?_)
          · replace h := h.1 c48
            exact b_93 M H locs ls a0 x1 (zI M b2 x1.toNatClampNeg) (hl.sub [1, 2, 0] rfl) hM hS h
          · replace h := h.2 c48
            refine lv_sipush (v := (412 : Int32)) hx hb d_Y_decide_89 (by decide) ?_
            rw [← hQ]
            exact z_iret hx hb hr hlk hK hM hS h d_Y_decide_92
    · replace h := h.1 c12
      refine lv_aload_n hx hb d_Y_decide_16 rfl (hl.at 1 rfl) ?_
      refine z_getR hx hb hW in_9 hown hK hM t1 (by decide) rfl 0 (by decide) rfl (hW _ k_585) rfl d_Y_decide_17 ?_
      refine lv_iload_n hx hb d_Y_decide_20 rfl (hl.at 0 rfl) ?_
      obtain ⟨b49, hb50, h⟩ := h
      rw [hb50]
      obtain ⟨n52, t51, h⟩ := h
      obtain ⟨i53, h⟩ := h
      refine z_zald hx hb hK hM t51 1 rfl i53 d_Y_decide_21 ?_
      refine lv_if_ne (tgt := 31) hx hb d_Y_decide_22 rfl (fun c54 => ?_) (fun c54 => ?_)
      · replace h := h.2 c54
        refine lv_aload_n hx hb d_Y_decide_31 rfl (hl.at 1 rfl) ?_
        refine z_getR hx hb hW in_9 hown hK hM t1 (by decide) rfl 12 (by decide) rfl (hW _ k_597) rfl d_Y_decide_32 ?_
        refine lv_iload_n hx hb d_Y_decide_35 rfl (hl.at 2 rfl) ?_
        obtain ⟨b55, hb56, h⟩ := h
        rw [hb56]
        obtain ⟨n58, t57, h⟩ := h
        obtain ⟨i59, h⟩ := h
        refine z_iald hx hb hK hM t57 0 rfl i59 d_Y_decide_36 ?_
        refine lv_aload_n hx hb d_Y_decide_37 rfl (hl.at 1 rfl) ?_
        refine z_getR hx hb hW in_9 hown hK hM t1 (by decide) rfl 3 (by decide) rfl (hW _ k_588) rfl d_Y_decide_38 ?_
        refine lv_iload_n hx hb d_Y_decide_41 rfl (hl.at 0 rfl) ?_
        obtain ⟨b60, hb61, h⟩ := h
        rw [hb61]
        obtain ⟨n63, t62, h⟩ := h
        obtain ⟨i64, h⟩ := h
        refine z_iald hx hb hK hM t62 0 rfl i64 d_Y_decide_42 ?_
        refine lv_icmp_ne (tgt := 52) hx hb d_Y_decide_43 rfl (fun c65 => ?_) (fun c65 => ?_)
        · replace h := h.2 c65
          refine lv_sipush (v := (200 : Int32)) hx hb d_Y_decide_52 (by decide) ?_
          rw [← hQ]
          exact z_iret hx hb hr hlk hK hM hS h d_Y_decide_55
        · replace h := h.1 c65
          refine lv_sipush (v := (304 : Int32)) hx hb d_Y_decide_46 (by decide) ?_
          refine lv_goto (tgt := 55) hx hb d_Y_decide_49 rfl ?_
          rw [← hQ]
          exact z_iret hx hb hr hlk hK hM hS h d_Y_decide_55
      · replace h := h.1 c54
        refine lv_sipush (v := (404 : Int32)) hx hb d_Y_decide_25 (by decide) ?_
        refine lv_goto (tgt := 55) hx hb d_Y_decide_28 rfl ?_
        rw [← hQ]
        exact z_iret hx hb hr hlk hK hM hS h d_Y_decide_55
  exact b_start M s.heap [] ls a0 x1 hl hM hS h
set_option maxHeartbeats 4000000 in
set_option maxRecDepth 100000 in
theorem c_Y_arrive (l : Launch) (ca : Nat → ClassId) (D : va_G) (M : zM) (sz : Nat) (a0 : Nat) (x1 : Int32) (post : Int32 → zM → Prop) : Met l y_Y_arrive (Cond.code y_Y_arrive prog_11_method_15_code 4 (some .int) :: zws) rm_Y_arrive (zPre ca D zcl (ztys ca) [.ref a0, .int x1] M sz (w_Y_arrive M a0 x1 post)) (va_Qi post (zB ca D zcl (ztys ca) (zA M sz)) (zA M sz)) 0 0 (zA M sz) := by
  refine z_met (cc := prog_11_method_15_code) (maxL := 4) (ret := (some .int)) (plainFor_of_name (by decide)) rfl (by simp [Value.category]) (Nat.le_of_ble_eq_true rfl) ?_
  intro p e s m args below meth c ls A hx hb hr hlk hml hts hown hnm hK hN hl hA0 hM hS hA h
  rw [← hA0]
  have hW : ∀ w ∈ zws, w.before args s = true := fun w hw => hts w (List.mem_cons_of_mem _ hw)
  have hl : zL ls 4 [(0, .ref a0), (1, .int x1)] := hl
  generalize hQ : MQ below (va_Qi post (zB ca D zcl (ztys ca) A) A) args s 0 0 A = Q
  have b_173 : ∀ (M : zM) (H : Heap) (locs : List Loc) (ls : Array Slot) (a0 : Nat) (x1 : Int32) (x2 : Int32) (x3 : Int32), zL ls 4 [(0, .ref a0), (1, .int x1), (2, .int x2), (3, .int x3)] → zW ca D zcl A M H → va_S A s.heap H locs → w_Y_arrive_173 post M a0 x1 x2 x3 → W p l e rm_Y_arrive s m args below meth c H locs 0 0 Q (F0 m 173 ls []) := by
    intro M H locs ls a0 x1 x2 x3 hl hM hS h
    unfold w_Y_arrive_173 at h
    refine lv_aload_n hx hb d_Y_arrive_173 rfl (hl.at 0 rfl) ?_
    obtain ⟨t71, h⟩ := h
    refine z_getR hx hb hW in_9 hown hK hM t71 (by decide) rfl 16 (by decide) rfl (hW _ k_601) rfl d_Y_arrive_174 ?_
    refine lv_iload_n hx hb d_Y_arrive_177 rfl (hl.at 1 rfl) ?_
    refine lv_iload_n hx hb d_Y_arrive_178 rfl (hl.at 3 rfl) ?_
    obtain ⟨b72, hb73, h⟩ := h
    rw [hb73]
    obtain ⟨n75, t74, h⟩ := h
    obtain ⟨i76, h⟩ := h
    refine z_iast hx hb hK hM hS t74 0 rfl i76 d_Y_arrive_179 (fun H locs hM hS => ?_)
    obtain ⟨M77, e78⟩ : ∃ z, z = zwI M b72 x1.toNatClampNeg x3 := ⟨_, rfl⟩
    replace h := h M77 e78
    rw [← e78] at hM
    refine lv_aload_n hx hb d_Y_arrive_180 rfl (hl.at 0 rfl) ?_
    have t79 : zT M77 a0 = some (9, 40) := by rw [e78]; exact t71
    refine z_getR hx hb hW in_9 hown hK hM t79 (by decide) rfl 15 (by decide) rfl (hW _ k_600) rfl d_Y_arrive_181 ?_
    refine lv_iload_n hx hb d_Y_arrive_184 rfl (hl.at 1 rfl) ?_
    refine lv_iconst (v := (2 : Int32)) hx hb d_Y_arrive_185 (by decide) ?_
    obtain ⟨b80, hb81, h⟩ := h
    rw [hb81]
    obtain ⟨n83, t82, h⟩ := h
    obtain ⟨i84, h⟩ := h
    refine z_iast hx hb hK hM hS t82 0 rfl i84 d_Y_arrive_186 (fun H locs hM hS => ?_)
    obtain ⟨M85, e86⟩ : ∃ z, z = zwI M77 b80 x1.toNatClampNeg (2 : Int32) := ⟨_, rfl⟩
    replace h := h M85 e86
    rw [← e86] at hM
    refine lv_aload_n hx hb d_Y_arrive_187 rfl (hl.at 0 rfl) ?_
    refine lv_iload_n hx hb d_Y_arrive_188 rfl (hl.at 1 rfl) ?_
    refine lv_iconst (v := (1 : Int32)) hx hb d_Y_arrive_189 (by decide) ?_
    refine lv_iadd hx hb d_Y_arrive_190 ?_
    refine lv_aload_n hx hb d_Y_arrive_191 rfl (hl.at 0 rfl) ?_
    have t87 : zT M85 a0 = some (9, 40) := by rw [e86]; exact t79
    refine z_getI hx hb hW in_9 hown hK hM t87 (by decide) rfl 39 (by decide) rfl (hW _ k_624) rfl d_Y_arrive_192 ?_
    refine lv_icmp_le (tgt := 204) hx hb d_Y_arrive_195 rfl (fun c88 => ?_) (fun c88 => ?_)
    · replace h := h.1 c88
      refine lv_aload_n hx hb d_Y_arrive_204 rfl (hl.at 0 rfl) ?_
      refine z_getI hx hb hW in_9 hown hK hM t87 (by decide) rfl 39 (by decide) rfl (hW _ k_624) rfl d_Y_arrive_205 ?_
      refine z_putI hx hb hW in_9 ty_9 tyok_9 nm_9 hown hK hM hS t87 (by decide) rfl 39 (by decide) rfl (hW _ k_624) rfl (Or.inl rfl) rfl rfl d_Y_arrive_208 (fun H locs hM hS => ?_)
      obtain ⟨M89, e90⟩ : ∃ z, z = zwI M85 a0 39 (zI M85 a0 39) := ⟨_, rfl⟩
      replace h := h M89 e90
      rw [← e90] at hM
      refine lv_iload_n hx hb d_Y_arrive_211 rfl (hl.at 3 rfl) ?_
      rw [← hQ]
      exact z_iret hx hb hr hlk hK hM hS h d_Y_arrive_212
    · replace h := h.2 c88
      refine lv_iload_n hx hb d_Y_arrive_198 rfl (hl.at 1 rfl) ?_
      refine lv_iconst (v := (1 : Int32)) hx hb d_Y_arrive_199 (by decide) ?_
      refine lv_iadd hx hb d_Y_arrive_200 ?_
      refine lv_goto (tgt := 208) hx hb d_Y_arrive_201 rfl ?_
      refine z_putI hx hb hW in_9 ty_9 tyok_9 nm_9 hown hK hM hS t87 (by decide) rfl 39 (by decide) rfl (hW _ k_624) rfl (Or.inl rfl) rfl rfl d_Y_arrive_208 (fun H locs hM hS => ?_)
      obtain ⟨M91, e92⟩ : ∃ z, z = zwI M85 a0 39 (x1 + (1 : Int32)) := ⟨_, rfl⟩
      replace h := h M91 e92
      rw [← e92] at hM
      refine lv_iload_n hx hb d_Y_arrive_211 rfl (hl.at 3 rfl) ?_
      rw [← hQ]
      exact z_iret hx hb hr hlk hK hM hS h d_Y_arrive_212
  have b_49 : ∀ (M : zM) (H : Heap) (locs : List Loc) (ls : Array Slot) (a0 : Nat) (x1 : Int32), zL ls 4 [(0, .ref a0), (1, .int x1)] → zW ca D zcl A M H → va_S A s.heap H locs → w_Y_arrive_49 post M a0 x1 → W p l e rm_Y_arrive s m args below meth c H locs 0 0 Q (F0 m 49 ls []) := by
    intro M H locs ls a0 x1 hl hM hS h
    unfold w_Y_arrive_49 at h
    refine lv_aload_n hx hb d_Y_arrive_49 rfl (hl.at 0 rfl) ?_
    obtain ⟨t21, h⟩ := h
    refine z_getR hx hb hW in_9 hown hK hM t21 (by decide) rfl 8 (by decide) rfl (hW _ k_593) rfl d_Y_arrive_50 ?_
    refine lv_iload_n hx hb d_Y_arrive_53 rfl (hl.at 1 rfl) ?_
    obtain ⟨b22, hb23, h⟩ := h
    rw [hb23]
    obtain ⟨n25, t24, h⟩ := h
    obtain ⟨i26, h⟩ := h
    refine z_iald hx hb hK hM t24 0 rfl i26 d_Y_arrive_54 ?_
    refine z_istore_n hx hb d_Y_arrive_55 rfl hl (by decide) rfl (fun ls hl => ?_)
    have hl : zL ls 4 [(2, .int (zI M b22 x1.toNatClampNeg)), (0, .ref a0), (1, .int x1)] := hl
    refine lv_aload_n hx hb d_Y_arrive_56 rfl (hl.at 1 rfl) ?_
    refine lv_iload_n hx hb d_Y_arrive_57 rfl (hl.at 2 rfl) ?_
    refine z_cti (mc := 0) (ms := 0) (va_runV (As := [.int x1]) (rest := []) ⟨hx, hb, hml, hown, hW⟩ (c_Y_decide l ca D M H.size a0 x1 _) (cw_Y_decide hW k_726 ⟨by decide, by decide⟩) (zPre_V hK hN hM h t21 (by decide) rfl) rfl rfl hl.1.1 rfl (lv_room (Nat.le_of_ble_eq_true rfl)) d_Y_arrive_58 ⟨by decide, by decide⟩) hM hS hA (fun r27 M28 H locs h hM hS => ?_)
    refine z_istore_n hx hb d_Y_arrive_61 rfl hl (by decide) rfl (fun ls hl => ?_)
    have hl : zL ls 4 [(3, .int r27), (2, .int (zI M b22 x1.toNatClampNeg)), (0, .ref a0), (1, .int x1)] := hl
    refine lv_aload_n hx hb d_Y_arrive_62 rfl (hl.at 2 rfl) ?_
    obtain ⟨t29, h⟩ := h
    refine z_getR hx hb hW in_9 hown hK hM t29 (by decide) rfl 17 (by decide) rfl (hW _ k_602) rfl d_Y_arrive_63 ?_
    refine lv_iload_n hx hb d_Y_arrive_66 rfl (hl.at 3 rfl) ?_
    refine lv_aload_n hx hb d_Y_arrive_67 rfl (hl.at 2 rfl) ?_
    refine z_getR hx hb hW in_9 hown hK hM t29 (by decide) rfl 3 (by decide) rfl (hW _ k_588) rfl d_Y_arrive_68 ?_
    refine lv_iload_n hx hb d_Y_arrive_71 rfl (hl.at 1 rfl) ?_
    obtain ⟨b30, hb31, h⟩ := h
    rw [hb31]
    obtain ⟨n33, t32, h⟩ := h
    obtain ⟨i34, h⟩ := h
    refine z_iald hx hb hK hM t32 0 rfl i34 d_Y_arrive_72 ?_
    obtain ⟨b35, hb36, h⟩ := h
    rw [hb36]
    obtain ⟨n38, t37, h⟩ := h
    obtain ⟨i39, h⟩ := h
    refine z_iast hx hb hK hM hS t37 0 rfl i39 d_Y_arrive_73 (fun H locs hM hS => ?_)
    obtain ⟨M40, e41⟩ : ∃ z, z = zwI M28 b35 x1.toNatClampNeg (zI M28 b30 (zI M b22 x1.toNatClampNeg).toNatClampNeg) := ⟨_, rfl⟩
    replace h := h M40 e41
    rw [← e41] at hM
    refine lv_aload_n hx hb d_Y_arrive_74 rfl (hl.at 2 rfl) ?_
    have t42 : zT M40 a0 = some (9, 40) := by rw [e41]; exact t29
    refine z_getR hx hb hW in_9 hown hK hM t42 (by decide) rfl 18 (by decide) rfl (hW _ k_603) rfl d_Y_arrive_75 ?_
    refine lv_iload_n hx hb d_Y_arrive_78 rfl (hl.at 3 rfl) ?_
    refine lv_aload_n hx hb d_Y_arrive_79 rfl (hl.at 2 rfl) ?_
    refine z_getR hx hb hW in_9 hown hK hM t42 (by decide) rfl 2 (by decide) rfl (hW _ k_587) rfl d_Y_arrive_80 ?_
    refine lv_iload_n hx hb d_Y_arrive_83 rfl (hl.at 1 rfl) ?_
    obtain ⟨b43, hb44, h⟩ := h
    rw [hb44]
    obtain ⟨n46, t45, h⟩ := h
    obtain ⟨i47, h⟩ := h
    refine z_iald hx hb hK hM t45 0 rfl i47 d_Y_arrive_84 ?_
    obtain ⟨b48, hb49, h⟩ := h
    rw [hb49]
    obtain ⟨n51, t50, h⟩ := h
    obtain ⟨i52, h⟩ := h
    refine z_iast hx hb hK hM hS t50 0 rfl i52 d_Y_arrive_85 (fun H locs hM hS => ?_)
    obtain ⟨M53, e54⟩ : ∃ z, z = zwI M40 b48 x1.toNatClampNeg (zI M40 b43 (zI M b22 x1.toNatClampNeg).toNatClampNeg) := ⟨_, rfl⟩
    replace h := h M53 e54
    rw [← e54] at hM
    refine lv_aload_n hx hb d_Y_arrive_86 rfl (hl.at 2 rfl) ?_
    have t55 : zT M53 a0 = some (9, 40) := by rw [e54]; exact t42
    refine z_getR hx hb hW in_9 hown hK hM t55 (by decide) rfl 19 (by decide) rfl (hW _ k_604) rfl d_Y_arrive_87 ?_
    refine lv_iload_n hx hb d_Y_arrive_90 rfl (hl.at 3 rfl) ?_
    refine lv_aload_n hx hb d_Y_arrive_91 rfl (hl.at 2 rfl) ?_
    refine z_getR hx hb hW in_9 hown hK hM t55 (by decide) rfl 1 (by decide) rfl (hW _ k_586) rfl d_Y_arrive_92 ?_
    refine lv_iload_n hx hb d_Y_arrive_95 rfl (hl.at 1 rfl) ?_
    obtain ⟨b56, hb57, h⟩ := h
    rw [hb57]
    obtain ⟨n59, t58, h⟩ := h
    obtain ⟨i60, h⟩ := h
    refine z_iald hx hb hK hM t58 0 rfl i60 d_Y_arrive_96 ?_
    obtain ⟨b61, hb62, h⟩ := h
    rw [hb62]
    obtain ⟨n64, t63, h⟩ := h
    obtain ⟨i65, h⟩ := h
    refine z_iast hx hb hK hM hS t63 0 rfl i65 d_Y_arrive_97 (fun H locs hM hS => ?_)
    obtain ⟨M66, e67⟩ : ∃ z, z = zwI M53 b61 x1.toNatClampNeg (zI M53 b56 (zI M b22 x1.toNatClampNeg).toNatClampNeg) := ⟨_, rfl⟩
    replace h := h M66 e67
    rw [← e67] at hM
    refine lv_iload_n hx hb d_Y_arrive_98 rfl (hl.at 0 rfl) ?_
    refine lv_sipush (v := (400 : Int32)) hx hb d_Y_arrive_99 (by decide) ?_
    refine lv_icmp_ge (tgt := 117) hx hb d_Y_arrive_102 rfl (fun c68 => ?_) (fun c68 => ?_)
    · replace h := h.1 c68
      refine lv_iload_n hx hb d_Y_arrive_117 rfl (hl.at 0 rfl) ?_
      refine lv_sipush (v := (400 : Int32)) hx hb d_Y_arrive_118 (by decide) ?_
      refine lv_icmp_ge (tgt := 145) hx hb d_Y_arrive_121 rfl (fun c69 => ?_) (fun c69 => ?_)
      · replace h := h.1 c69
        refine lv_iload_n hx hb d_Y_arrive_145 rfl (hl.at 0 rfl) ?_
        refine lv_sipush (v := (200 : Int32)) hx hb d_Y_arrive_146 (by decide) ?_
        refine lv_icmp_ne (tgt := 173) hx hb d_Y_arrive_149 rfl (fun c70 => ?_) (fun c70 => ?_)
        · replace h := h.2 c70
          refine W.widen (k := 0) (n := 0) (by decide) (by decide) ?_
          exact b_173 M66 H locs ls a0 x1 (zI M b22 x1.toNatClampNeg) r27 (hl.sub [2, 3, 1, 0] rfl) hM hS h
        · replace h := h.1 c70
          refine lv_aload_n hx hb d_Y_arrive_152 rfl (hl.at 2 rfl) ?_
          have t93 : zT M66 a0 = some (9, 40) := by rw [e67]; exact t55
          refine z_getR hx hb hW in_9 hown hK hM t93 (by decide) rfl 7 (by decide) rfl (hW _ k_592) rfl d_Y_arrive_153 ?_
          refine lv_iload_n hx hb d_Y_arrive_156 rfl (hl.at 3 rfl) ?_
          obtain ⟨b94, hb95, h⟩ := h
          rw [hb95]
          obtain ⟨n97, t96, h⟩ := h
          obtain ⟨i98, h⟩ := h
          refine z_zald hx hb hK hM t96 1 rfl i98 d_Y_arrive_157 ?_
          refine lv_if_ne (tgt := 173) hx hb d_Y_arrive_158 rfl (fun c99 => ?_) (fun c99 => ?_)
          · replace h := h.2 c99
            refine W.widen (k := 0) (n := 0) (by decide) (by decide) ?_
            exact b_173 M66 H locs ls a0 x1 (zI M b22 x1.toNatClampNeg) r27 (hl.sub [2, 3, 1, 0] rfl) hM hS h
          · replace h := h.1 c99
            refine lv_aload_n hx hb d_Y_arrive_161 rfl (hl.at 2 rfl) ?_
            refine lv_iload_n hx hb d_Y_arrive_162 rfl (hl.at 3 rfl) ?_
            refine lv_iconst (v := (2 : Int32)) hx hb d_Y_arrive_163 (by decide) ?_
            refine lv_aload_n hx hb d_Y_arrive_164 rfl (hl.at 2 rfl) ?_
            refine z_getR hx hb hW in_9 hown hK hM t93 (by decide) rfl 1 (by decide) rfl (hW _ k_586) rfl d_Y_arrive_165 ?_
            refine lv_iload_n hx hb d_Y_arrive_168 rfl (hl.at 1 rfl) ?_
            obtain ⟨b100, hb101, h⟩ := h
            rw [hb101]
            obtain ⟨n103, t102, h⟩ := h
            obtain ⟨i104, h⟩ := h
            refine z_iald hx hb hK hM t102 0 rfl i104 d_Y_arrive_169 ?_
            refine z_ctv (mc := 0) (ms := 0) (va_runV (As := [.int x1, .int (2 : Int32), .int (zI M66 b100 (zI M b22 x1.toNatClampNeg).toNatClampNeg)]) (rest := []) ⟨hx, hb, hml, hown, hW⟩ (c_Y_field l ca D M66 H.size a0 x1 (2 : Int32) (zI M66 b100 (zI M b22 x1.toNatClampNeg).toNatClampNeg) _) (cw_Y_field hW k_730 ⟨by decide, by decide⟩) (zPre_V hK hN hM h t93 (by decide) rfl) rfl rfl hl.1.1 rfl (lv_room (Nat.le_of_ble_eq_true rfl)) d_Y_arrive_170 ⟨by decide, by decide⟩) hM hS hA (fun M105 H locs h hM hS => ?_)
            refine W.widen (k := 0) (n := 0) (by decide) (by decide) ?_
            exact b_173 M105 H locs ls a0 x1 (zI M b22 x1.toNatClampNeg) r27 (hl.sub [2, 3, 1, 0] rfl) hM hS h
      · replace h := h.2 c69
        refine lv_aload_n hx hb d_Y_arrive_124 rfl (hl.at 2 rfl) ?_
        have t106 : zT M66 a0 = some (9, 40) := by rw [e67]; exact t55
        refine z_getR hx hb hW in_9 hown hK hM t106 (by decide) rfl 7 (by decide) rfl (hW _ k_592) rfl d_Y_arrive_125 ?_
        refine lv_iload_n hx hb d_Y_arrive_128 rfl (hl.at 3 rfl) ?_
        obtain ⟨b107, hb108, h⟩ := h
        rw [hb108]
        obtain ⟨n110, t109, h⟩ := h
        obtain ⟨i111, h⟩ := h
        refine z_zald hx hb hK hM t109 1 rfl i111 d_Y_arrive_129 ?_
        refine lv_if_ne (tgt := 145) hx hb d_Y_arrive_130 rfl (fun c112 => ?_) (fun c112 => ?_)
        · replace h := h.2 c112
          refine lv_iload_n hx hb d_Y_arrive_145 rfl (hl.at 0 rfl) ?_
          refine lv_sipush (v := (200 : Int32)) hx hb d_Y_arrive_146 (by decide) ?_
          refine lv_icmp_ne (tgt := 173) hx hb d_Y_arrive_149 rfl (fun c113 => ?_) (fun c113 => ?_)
          · replace h := h.2 c113
            refine W.widen (k := 0) (n := 0) (by decide) (by decide) ?_
            exact b_173 M66 H locs ls a0 x1 (zI M b22 x1.toNatClampNeg) r27 (hl.sub [2, 3, 1, 0] rfl) hM hS h
          · replace h := h.1 c113
            refine lv_aload_n hx hb d_Y_arrive_152 rfl (hl.at 2 rfl) ?_
            refine z_getR hx hb hW in_9 hown hK hM t106 (by decide) rfl 7 (by decide) rfl (hW _ k_592) rfl d_Y_arrive_153 ?_
            refine lv_iload_n hx hb d_Y_arrive_156 rfl (hl.at 3 rfl) ?_
            obtain ⟨b114, hb115, h⟩ := h
            rw [hb115]
            obtain ⟨n117, t116, h⟩ := h
            obtain ⟨i118, h⟩ := h
            refine z_zald hx hb hK hM t116 1 rfl i118 d_Y_arrive_157 ?_
            refine lv_if_ne (tgt := 173) hx hb d_Y_arrive_158 rfl (fun c119 => ?_) (fun c119 => ?_)
            · replace h := h.2 c119
              refine W.widen (k := 0) (n := 0) (by decide) (by decide) ?_
              exact b_173 M66 H locs ls a0 x1 (zI M b22 x1.toNatClampNeg) r27 (hl.sub [2, 3, 1, 0] rfl) hM hS h
            · replace h := h.1 c119
              refine lv_aload_n hx hb d_Y_arrive_161 rfl (hl.at 2 rfl) ?_
              refine lv_iload_n hx hb d_Y_arrive_162 rfl (hl.at 3 rfl) ?_
              refine lv_iconst (v := (2 : Int32)) hx hb d_Y_arrive_163 (by decide) ?_
              refine lv_aload_n hx hb d_Y_arrive_164 rfl (hl.at 2 rfl) ?_
              refine z_getR hx hb hW in_9 hown hK hM t106 (by decide) rfl 1 (by decide) rfl (hW _ k_586) rfl d_Y_arrive_165 ?_
              refine lv_iload_n hx hb d_Y_arrive_168 rfl (hl.at 1 rfl) ?_
              obtain ⟨b120, hb121, h⟩ := h
              rw [hb121]
              obtain ⟨n123, t122, h⟩ := h
              obtain ⟨i124, h⟩ := h
              refine z_iald hx hb hK hM t122 0 rfl i124 d_Y_arrive_169 ?_
              refine z_ctv (mc := 0) (ms := 0) (va_runV (As := [.int x1, .int (2 : Int32), .int (zI M66 b120 (zI M b22 x1.toNatClampNeg).toNatClampNeg)]) (rest := []) ⟨hx, hb, hml, hown, hW⟩ (c_Y_field l ca D M66 H.size a0 x1 (2 : Int32) (zI M66 b120 (zI M b22 x1.toNatClampNeg).toNatClampNeg) _) (cw_Y_field hW k_730 ⟨by decide, by decide⟩) (zPre_V hK hN hM h t106 (by decide) rfl) rfl rfl hl.1.1 rfl (lv_room (Nat.le_of_ble_eq_true rfl)) d_Y_arrive_170 ⟨by decide, by decide⟩) hM hS hA (fun M125 H locs h hM hS => ?_)
              refine W.widen (k := 0) (n := 0) (by decide) (by decide) ?_
              exact b_173 M125 H locs ls a0 x1 (zI M b22 x1.toNatClampNeg) r27 (hl.sub [2, 3, 1, 0] rfl) hM hS h
        · replace h := h.1 c112
          refine lv_aload_n hx hb d_Y_arrive_133 rfl (hl.at 2 rfl) ?_
          refine lv_iload_n hx hb d_Y_arrive_134 rfl (hl.at 3 rfl) ?_
          refine lv_iconst (v := (1 : Int32)) hx hb d_Y_arrive_135 (by decide) ?_
          refine lv_aload_n hx hb d_Y_arrive_136 rfl (hl.at 2 rfl) ?_
          refine z_getR hx hb hW in_9 hown hK hM t106 (by decide) rfl 2 (by decide) rfl (hW _ k_587) rfl d_Y_arrive_137 ?_
          refine lv_iload_n hx hb d_Y_arrive_140 rfl (hl.at 1 rfl) ?_
          obtain ⟨b126, hb127, h⟩ := h
          rw [hb127]
          obtain ⟨n129, t128, h⟩ := h
          obtain ⟨i130, h⟩ := h
          refine z_iald hx hb hK hM t128 0 rfl i130 d_Y_arrive_141 ?_
          refine z_ctv (mc := 0) (ms := 0) (va_runV (As := [.int x1, .int (1 : Int32), .int (zI M66 b126 (zI M b22 x1.toNatClampNeg).toNatClampNeg)]) (rest := []) ⟨hx, hb, hml, hown, hW⟩ (c_Y_field l ca D M66 H.size a0 x1 (1 : Int32) (zI M66 b126 (zI M b22 x1.toNatClampNeg).toNatClampNeg) _) (cw_Y_field hW k_730 ⟨by decide, by decide⟩) (zPre_V hK hN hM h t106 (by decide) rfl) rfl rfl hl.1.1 rfl (lv_room (Nat.le_of_ble_eq_true rfl)) d_Y_arrive_142 ⟨by decide, by decide⟩) hM hS hA (fun M131 H locs h hM hS => ?_)
          refine lv_iload_n hx hb d_Y_arrive_145 rfl (hl.at 0 rfl) ?_
          refine lv_sipush (v := (200 : Int32)) hx hb d_Y_arrive_146 (by decide) ?_
          refine lv_icmp_ne (tgt := 173) hx hb d_Y_arrive_149 rfl (fun c132 => ?_) (fun c132 => ?_)
          · replace h := h.2 c132
            refine W.widen (k := 0) (n := 0) (by decide) (by decide) ?_
            exact b_173 M131 H locs ls a0 x1 (zI M b22 x1.toNatClampNeg) r27 (hl.sub [2, 3, 1, 0] rfl) hM hS h
          · replace h := h.1 c132
            refine lv_aload_n hx hb d_Y_arrive_152 rfl (hl.at 2 rfl) ?_
            obtain ⟨t133, h⟩ := h
            refine z_getR hx hb hW in_9 hown hK hM t133 (by decide) rfl 7 (by decide) rfl (hW _ k_592) rfl d_Y_arrive_153 ?_
            refine lv_iload_n hx hb d_Y_arrive_156 rfl (hl.at 3 rfl) ?_
            obtain ⟨b134, hb135, h⟩ := h
            rw [hb135]
            obtain ⟨n137, t136, h⟩ := h
            obtain ⟨i138, h⟩ := h
            refine z_zald hx hb hK hM t136 1 rfl i138 d_Y_arrive_157 ?_
            refine lv_if_ne (tgt := 173) hx hb d_Y_arrive_158 rfl (fun c139 => ?_) (fun c139 => ?_)
            · replace h := h.2 c139
              refine W.widen (k := 0) (n := 0) (by decide) (by decide) ?_
              exact b_173 M131 H locs ls a0 x1 (zI M b22 x1.toNatClampNeg) r27 (hl.sub [2, 3, 1, 0] rfl) hM hS h
            · replace h := h.1 c139
              refine lv_aload_n hx hb d_Y_arrive_161 rfl (hl.at 2 rfl) ?_
              refine lv_iload_n hx hb d_Y_arrive_162 rfl (hl.at 3 rfl) ?_
              refine lv_iconst (v := (2 : Int32)) hx hb d_Y_arrive_163 (by decide) ?_
              refine lv_aload_n hx hb d_Y_arrive_164 rfl (hl.at 2 rfl) ?_
              refine z_getR hx hb hW in_9 hown hK hM t133 (by decide) rfl 1 (by decide) rfl (hW _ k_586) rfl d_Y_arrive_165 ?_
              refine lv_iload_n hx hb d_Y_arrive_168 rfl (hl.at 1 rfl) ?_
              obtain ⟨b140, hb141, h⟩ := h
              rw [hb141]
              obtain ⟨n143, t142, h⟩ := h
              obtain ⟨i144, h⟩ := h
              refine z_iald hx hb hK hM t142 0 rfl i144 d_Y_arrive_169 ?_
              refine z_ctv (mc := 0) (ms := 0) (va_runV (As := [.int x1, .int (2 : Int32), .int (zI M131 b140 (zI M b22 x1.toNatClampNeg).toNatClampNeg)]) (rest := []) ⟨hx, hb, hml, hown, hW⟩ (c_Y_field l ca D M131 H.size a0 x1 (2 : Int32) (zI M131 b140 (zI M b22 x1.toNatClampNeg).toNatClampNeg) _) (cw_Y_field hW k_730 ⟨by decide, by decide⟩) (zPre_V hK hN hM h t133 (by decide) rfl) rfl rfl hl.1.1 rfl (lv_room (Nat.le_of_ble_eq_true rfl)) d_Y_arrive_170 ⟨by decide, by decide⟩) hM hS hA (fun M145 H locs h hM hS => ?_)
              refine W.widen (k := 0) (n := 0) (by decide) (by decide) ?_
              exact b_173 M145 H locs ls a0 x1 (zI M b22 x1.toNatClampNeg) r27 (hl.sub [2, 3, 1, 0] rfl) hM hS h
    · replace h := h.2 c68
      refine lv_aload_n hx hb d_Y_arrive_105 rfl (hl.at 2 rfl) ?_
      refine lv_iload_n hx hb d_Y_arrive_106 rfl (hl.at 3 rfl) ?_
      refine lv_iconst (v := (0 : Int32)) hx hb d_Y_arrive_107 (by decide) ?_
      refine lv_aload_n hx hb d_Y_arrive_108 rfl (hl.at 2 rfl) ?_
      have t146 : zT M66 a0 = some (9, 40) := by rw [e67]; exact t55
      refine z_getR hx hb hW in_9 hown hK hM t146 (by decide) rfl 3 (by decide) rfl (hW _ k_588) rfl d_Y_arrive_109 ?_
      refine lv_iload_n hx hb d_Y_arrive_112 rfl (hl.at 1 rfl) ?_
      obtain ⟨b147, hb148, h⟩ := h
      rw [hb148]
      obtain ⟨n150, t149, h⟩ := h
      obtain ⟨i151, h⟩ := h
      refine z_iald hx hb hK hM t149 0 rfl i151 d_Y_arrive_113 ?_
      refine z_ctv (mc := 0) (ms := 0) (va_runV (As := [.int x1, .int (0 : Int32), .int (zI M66 b147 (zI M b22 x1.toNatClampNeg).toNatClampNeg)]) (rest := []) ⟨hx, hb, hml, hown, hW⟩ (c_Y_field l ca D M66 H.size a0 x1 (0 : Int32) (zI M66 b147 (zI M b22 x1.toNatClampNeg).toNatClampNeg) _) (cw_Y_field hW k_730 ⟨by decide, by decide⟩) (zPre_V hK hN hM h t146 (by decide) rfl) rfl rfl hl.1.1 rfl (lv_room (Nat.le_of_ble_eq_true rfl)) d_Y_arrive_114 ⟨by decide, by decide⟩) hM hS hA (fun M152 H locs h hM hS => ?_)
      refine lv_iload_n hx hb d_Y_arrive_117 rfl (hl.at 0 rfl) ?_
      refine lv_sipush (v := (400 : Int32)) hx hb d_Y_arrive_118 (by decide) ?_
      refine lv_icmp_ge (tgt := 145) hx hb d_Y_arrive_121 rfl (fun c153 => ?_) (fun c153 => ?_)
      · replace h := h.1 c153
        refine lv_iload_n hx hb d_Y_arrive_145 rfl (hl.at 0 rfl) ?_
        refine lv_sipush (v := (200 : Int32)) hx hb d_Y_arrive_146 (by decide) ?_
        refine lv_icmp_ne (tgt := 173) hx hb d_Y_arrive_149 rfl (fun c154 => ?_) (fun c154 => ?_)
        · replace h := h.2 c154
          refine W.widen (k := 0) (n := 0) (by decide) (by decide) ?_
          exact b_173 M152 H locs ls a0 x1 (zI M b22 x1.toNatClampNeg) r27 (hl.sub [2, 3, 1, 0] rfl) hM hS h
        · replace h := h.1 c154
          refine lv_aload_n hx hb d_Y_arrive_152 rfl (hl.at 2 rfl) ?_
          obtain ⟨t155, h⟩ := h
          refine z_getR hx hb hW in_9 hown hK hM t155 (by decide) rfl 7 (by decide) rfl (hW _ k_592) rfl d_Y_arrive_153 ?_
          refine lv_iload_n hx hb d_Y_arrive_156 rfl (hl.at 3 rfl) ?_
          obtain ⟨b156, hb157, h⟩ := h
          rw [hb157]
          obtain ⟨n159, t158, h⟩ := h
          obtain ⟨i160, h⟩ := h
          refine z_zald hx hb hK hM t158 1 rfl i160 d_Y_arrive_157 ?_
          refine lv_if_ne (tgt := 173) hx hb d_Y_arrive_158 rfl (fun c161 => ?_) (fun c161 => ?_)
          · replace h := h.2 c161
            refine W.widen (k := 0) (n := 0) (by decide) (by decide) ?_
            exact b_173 M152 H locs ls a0 x1 (zI M b22 x1.toNatClampNeg) r27 (hl.sub [2, 3, 1, 0] rfl) hM hS h
          · replace h := h.1 c161
            refine lv_aload_n hx hb d_Y_arrive_161 rfl (hl.at 2 rfl) ?_
            refine lv_iload_n hx hb d_Y_arrive_162 rfl (hl.at 3 rfl) ?_
            refine lv_iconst (v := (2 : Int32)) hx hb d_Y_arrive_163 (by decide) ?_
            refine lv_aload_n hx hb d_Y_arrive_164 rfl (hl.at 2 rfl) ?_
            refine z_getR hx hb hW in_9 hown hK hM t155 (by decide) rfl 1 (by decide) rfl (hW _ k_586) rfl d_Y_arrive_165 ?_
            refine lv_iload_n hx hb d_Y_arrive_168 rfl (hl.at 1 rfl) ?_
            obtain ⟨b162, hb163, h⟩ := h
            rw [hb163]
            obtain ⟨n165, t164, h⟩ := h
            obtain ⟨i166, h⟩ := h
            refine z_iald hx hb hK hM t164 0 rfl i166 d_Y_arrive_169 ?_
            refine z_ctv (mc := 0) (ms := 0) (va_runV (As := [.int x1, .int (2 : Int32), .int (zI M152 b162 (zI M b22 x1.toNatClampNeg).toNatClampNeg)]) (rest := []) ⟨hx, hb, hml, hown, hW⟩ (c_Y_field l ca D M152 H.size a0 x1 (2 : Int32) (zI M152 b162 (zI M b22 x1.toNatClampNeg).toNatClampNeg) _) (cw_Y_field hW k_730 ⟨by decide, by decide⟩) (zPre_V hK hN hM h t155 (by decide) rfl) rfl rfl hl.1.1 rfl (lv_room (Nat.le_of_ble_eq_true rfl)) d_Y_arrive_170 ⟨by decide, by decide⟩) hM hS hA (fun M167 H locs h hM hS => ?_)
            refine W.widen (k := 0) (n := 0) (by decide) (by decide) ?_
            exact b_173 M167 H locs ls a0 x1 (zI M b22 x1.toNatClampNeg) r27 (hl.sub [2, 3, 1, 0] rfl) hM hS h
      · replace h := h.2 c153
        refine lv_aload_n hx hb d_Y_arrive_124 rfl (hl.at 2 rfl) ?_
        obtain ⟨t168, h⟩ := h
        refine z_getR hx hb hW in_9 hown hK hM t168 (by decide) rfl 7 (by decide) rfl (hW _ k_592) rfl d_Y_arrive_125 ?_
        refine lv_iload_n hx hb d_Y_arrive_128 rfl (hl.at 3 rfl) ?_
        obtain ⟨b169, hb170, h⟩ := h
        rw [hb170]
        obtain ⟨n172, t171, h⟩ := h
        obtain ⟨i173, h⟩ := h
        refine z_zald hx hb hK hM t171 1 rfl i173 d_Y_arrive_129 ?_
        refine lv_if_ne (tgt := 145) hx hb d_Y_arrive_130 rfl (fun c174 => ?_) (fun c174 => ?_)
        · replace h := h.2 c174
          refine lv_iload_n hx hb d_Y_arrive_145 rfl (hl.at 0 rfl) ?_
          refine lv_sipush (v := (200 : Int32)) hx hb d_Y_arrive_146 (by decide) ?_
          refine lv_icmp_ne (tgt := 173) hx hb d_Y_arrive_149 rfl (fun c175 => ?_) (fun c175 => ?_)
          · replace h := h.2 c175
            refine W.widen (k := 0) (n := 0) (by decide) (by decide) ?_
            exact b_173 M152 H locs ls a0 x1 (zI M b22 x1.toNatClampNeg) r27 (hl.sub [2, 3, 1, 0] rfl) hM hS h
          · replace h := h.1 c175
            refine lv_aload_n hx hb d_Y_arrive_152 rfl (hl.at 2 rfl) ?_
            refine z_getR hx hb hW in_9 hown hK hM t168 (by decide) rfl 7 (by decide) rfl (hW _ k_592) rfl d_Y_arrive_153 ?_
            refine lv_iload_n hx hb d_Y_arrive_156 rfl (hl.at 3 rfl) ?_
            obtain ⟨b176, hb177, h⟩ := h
            rw [hb177]
            obtain ⟨n179, t178, h⟩ := h
            obtain ⟨i180, h⟩ := h
            refine z_zald hx hb hK hM t178 1 rfl i180 d_Y_arrive_157 ?_
            refine lv_if_ne (tgt := 173) hx hb d_Y_arrive_158 rfl (fun c181 => ?_) (fun c181 => ?_)
            · replace h := h.2 c181
              refine W.widen (k := 0) (n := 0) (by decide) (by decide) ?_
              exact b_173 M152 H locs ls a0 x1 (zI M b22 x1.toNatClampNeg) r27 (hl.sub [2, 3, 1, 0] rfl) hM hS h
            · replace h := h.1 c181
              refine lv_aload_n hx hb d_Y_arrive_161 rfl (hl.at 2 rfl) ?_
              refine lv_iload_n hx hb d_Y_arrive_162 rfl (hl.at 3 rfl) ?_
              refine lv_iconst (v := (2 : Int32)) hx hb d_Y_arrive_163 (by decide) ?_
              refine lv_aload_n hx hb d_Y_arrive_164 rfl (hl.at 2 rfl) ?_
              refine z_getR hx hb hW in_9 hown hK hM t168 (by decide) rfl 1 (by decide) rfl (hW _ k_586) rfl d_Y_arrive_165 ?_
              refine lv_iload_n hx hb d_Y_arrive_168 rfl (hl.at 1 rfl) ?_
              obtain ⟨b182, hb183, h⟩ := h
              rw [hb183]
              obtain ⟨n185, t184, h⟩ := h
              obtain ⟨i186, h⟩ := h
              refine z_iald hx hb hK hM t184 0 rfl i186 d_Y_arrive_169 ?_
              refine z_ctv (mc := 0) (ms := 0) (va_runV (As := [.int x1, .int (2 : Int32), .int (zI M152 b182 (zI M b22 x1.toNatClampNeg).toNatClampNeg)]) (rest := []) ⟨hx, hb, hml, hown, hW⟩ (c_Y_field l ca D M152 H.size a0 x1 (2 : Int32) (zI M152 b182 (zI M b22 x1.toNatClampNeg).toNatClampNeg) _) (cw_Y_field hW k_730 ⟨by decide, by decide⟩) (zPre_V hK hN hM h t168 (by decide) rfl) rfl rfl hl.1.1 rfl (lv_room (Nat.le_of_ble_eq_true rfl)) d_Y_arrive_170 ⟨by decide, by decide⟩) hM hS hA (fun M187 H locs h hM hS => ?_)
              refine W.widen (k := 0) (n := 0) (by decide) (by decide) ?_
              exact b_173 M187 H locs ls a0 x1 (zI M b22 x1.toNatClampNeg) r27 (hl.sub [2, 3, 1, 0] rfl) hM hS h
        · replace h := h.1 c174
          refine lv_aload_n hx hb d_Y_arrive_133 rfl (hl.at 2 rfl) ?_
          refine lv_iload_n hx hb d_Y_arrive_134 rfl (hl.at 3 rfl) ?_
          refine lv_iconst (v := (1 : Int32)) hx hb d_Y_arrive_135 (by decide) ?_
          refine lv_aload_n hx hb d_Y_arrive_136 rfl (hl.at 2 rfl) ?_
          refine z_getR hx hb hW in_9 hown hK hM t168 (by decide) rfl 2 (by decide) rfl (hW _ k_587) rfl d_Y_arrive_137 ?_
          refine lv_iload_n hx hb d_Y_arrive_140 rfl (hl.at 1 rfl) ?_
          obtain ⟨b188, hb189, h⟩ := h
          rw [hb189]
          obtain ⟨n191, t190, h⟩ := h
          obtain ⟨i192, h⟩ := h
          refine z_iald hx hb hK hM t190 0 rfl i192 d_Y_arrive_141 ?_
          refine z_ctv (mc := 0) (ms := 0) (va_runV (As := [.int x1, .int (1 : Int32), .int (zI M152 b188 (zI M b22 x1.toNatClampNeg).toNatClampNeg)]) (rest := []) ⟨hx, hb, hml, hown, hW⟩ (c_Y_field l ca D M152 H.size a0 x1 (1 : Int32) (zI M152 b188 (zI M b22 x1.toNatClampNeg).toNatClampNeg) _) (cw_Y_field hW k_730 ⟨by decide, by decide⟩) (zPre_V hK hN hM h t168 (by decide) rfl) rfl rfl hl.1.1 rfl (lv_room (Nat.le_of_ble_eq_true rfl)) d_Y_arrive_142 ⟨by decide, by decide⟩) hM hS hA (fun M193 H locs h hM hS => ?_)
          refine lv_iload_n hx hb d_Y_arrive_145 rfl (hl.at 0 rfl) ?_
          refine lv_sipush (v := (200 : Int32)) hx hb d_Y_arrive_146 (by decide) ?_
          refine lv_icmp_ne (tgt := 173) hx hb d_Y_arrive_149 rfl (fun c194 => ?_) (fun c194 => ?_)
          · replace h := h.2 c194
            refine W.widen (k := 0) (n := 0) (by decide) (by decide) ?_
            exact b_173 M193 H locs ls a0 x1 (zI M b22 x1.toNatClampNeg) r27 (hl.sub [2, 3, 1, 0] rfl) hM hS h
          · replace h := h.1 c194
            refine lv_aload_n hx hb d_Y_arrive_152 rfl (hl.at 2 rfl) ?_
            obtain ⟨t195, h⟩ := h
            refine z_getR hx hb hW in_9 hown hK hM t195 (by decide) rfl 7 (by decide) rfl (hW _ k_592) rfl d_Y_arrive_153 ?_
            refine lv_iload_n hx hb d_Y_arrive_156 rfl (hl.at 3 rfl) ?_
            obtain ⟨b196, hb197, h⟩ := h
            rw [hb197]
            obtain ⟨n199, t198, h⟩ := h
            obtain ⟨i200, h⟩ := h
            refine z_zald hx hb hK hM t198 1 rfl i200 d_Y_arrive_157 ?_
            refine lv_if_ne (tgt := 173) hx hb d_Y_arrive_158 rfl (fun c201 => ?_) (fun c201 => ?_)
            · replace h := h.2 c201
              refine W.widen (k := 0) (n := 0) (by decide) (by decide) ?_
              exact b_173 M193 H locs ls a0 x1 (zI M b22 x1.toNatClampNeg) r27 (hl.sub [2, 3, 1, 0] rfl) hM hS h
            · replace h := h.1 c201
              refine lv_aload_n hx hb d_Y_arrive_161 rfl (hl.at 2 rfl) ?_
              refine lv_iload_n hx hb d_Y_arrive_162 rfl (hl.at 3 rfl) ?_
              refine lv_iconst (v := (2 : Int32)) hx hb d_Y_arrive_163 (by decide) ?_
              refine lv_aload_n hx hb d_Y_arrive_164 rfl (hl.at 2 rfl) ?_
              refine z_getR hx hb hW in_9 hown hK hM t195 (by decide) rfl 1 (by decide) rfl (hW _ k_586) rfl d_Y_arrive_165 ?_
              refine lv_iload_n hx hb d_Y_arrive_168 rfl (hl.at 1 rfl) ?_
              obtain ⟨b202, hb203, h⟩ := h
              rw [hb203]
              obtain ⟨n205, t204, h⟩ := h
              obtain ⟨i206, h⟩ := h
              refine z_iald hx hb hK hM t204 0 rfl i206 d_Y_arrive_169 ?_
              refine z_ctv (mc := 0) (ms := 0) (va_runV (As := [.int x1, .int (2 : Int32), .int (zI M193 b202 (zI M b22 x1.toNatClampNeg).toNatClampNeg)]) (rest := []) ⟨hx, hb, hml, hown, hW⟩ (c_Y_field l ca D M193 H.size a0 x1 (2 : Int32) (zI M193 b202 (zI M b22 x1.toNatClampNeg).toNatClampNeg) _) (cw_Y_field hW k_730 ⟨by decide, by decide⟩) (zPre_V hK hN hM h t195 (by decide) rfl) rfl rfl hl.1.1 rfl (lv_room (Nat.le_of_ble_eq_true rfl)) d_Y_arrive_170 ⟨by decide, by decide⟩) hM hS hA (fun M207 H locs h hM hS => ?_)
              refine W.widen (k := 0) (n := 0) (by decide) (by decide) ?_
              exact b_173 M207 H locs ls a0 x1 (zI M b22 x1.toNatClampNeg) r27 (hl.sub [2, 3, 1, 0] rfl) hM hS h
  have b_start : ∀ (M : zM) (H : Heap) (locs : List Loc) (ls : Array Slot) (a0 : Nat) (x1 : Int32), zL ls 4 [(0, .ref a0), (1, .int x1)] → zW ca D zcl A M H → va_S A s.heap H locs → w_Y_arrive M a0 x1 post → W p l e rm_Y_arrive s m args below meth c H locs 0 0 Q (F0 m 0 ls []) := by
    intro M H locs ls a0 x1 hl hM hS h
    unfold w_Y_arrive at h
    refine lv_iload_n hx hb d_Y_arrive_0 rfl (hl.at 1 rfl) ?_
    refine lv_aload_n hx hb d_Y_arrive_1 rfl (hl.at 0 rfl) ?_
    obtain ⟨t1, h⟩ := h
    refine z_getI hx hb hW in_9 hown hK hM t1 (by decide) rfl 6 (by decide) rfl (hW _ k_591) rfl d_Y_arrive_2 ?_
    refine lv_iconst (v := (1 : Int32)) hx hb d_Y_arrive_5 (by decide) ?_
    refine lv_isub hx hb d_Y_arrive_6 ?_
    refine z_cti (mc := 0) (ms := 0) (va_runS (As := [.int x1, .int ((zI M a0 6) - (1 : Int32))]) (rest := []) ⟨hx, hb, hml, hown, hW⟩ (c_Y_within l ca D M H.size x1 ((zI M a0 6) - (1 : Int32)) _) (cw_Y_within hW k_711 ⟨by decide, by decide⟩) (zPre_S hK hN hM h) rfl rfl hl.1.1 rfl (lv_room (Nat.le_of_ble_eq_true rfl)) d_Y_arrive_7 ⟨by decide, by decide⟩) hM hS hA (fun r2 M3 H locs h hM hS => ?_)
    refine lv_if_eq (tgt := 23) hx hb d_Y_arrive_10 rfl (fun c4 => ?_) (fun c4 => ?_)
    · replace h := h.1 c4
      refine lv_iconst (v := (-1 : Int32)) hx hb d_Y_arrive_23 (by decide) ?_
      refine W.widen (k := 0) (n := 0) (by decide) (by decide) ?_
      rw [← hQ]
      exact z_iret hx hb hr hlk hK hM hS h d_Y_arrive_24
    · replace h := h.2 c4
      refine lv_aload_n hx hb d_Y_arrive_13 rfl (hl.at 0 rfl) ?_
      obtain ⟨t5, h⟩ := h
      refine z_getR hx hb hW in_9 hown hK hM t5 (by decide) rfl 15 (by decide) rfl (hW _ k_600) rfl d_Y_arrive_14 ?_
      refine lv_iload_n hx hb d_Y_arrive_17 rfl (hl.at 1 rfl) ?_
      obtain ⟨b6, hb7, h⟩ := h
      rw [hb7]
      obtain ⟨n9, t8, h⟩ := h
      obtain ⟨i10, h⟩ := h
      refine z_iald hx hb hK hM t8 0 rfl i10 d_Y_arrive_18 ?_
      refine lv_iconst (v := (1 : Int32)) hx hb d_Y_arrive_19 (by decide) ?_
      refine lv_icmp_eq (tgt := 25) hx hb d_Y_arrive_20 rfl (fun c11 => ?_) (fun c11 => ?_)
      · replace h := h.1 c11
        refine lv_aload_n hx hb d_Y_arrive_25 rfl (hl.at 0 rfl) ?_
        refine z_getR hx hb hW in_9 hown hK hM t5 (by decide) rfl 15 (by decide) rfl (hW _ k_600) rfl d_Y_arrive_26 ?_
        refine lv_iload_n hx hb d_Y_arrive_29 rfl (hl.at 1 rfl) ?_
        refine lv_iconst (v := (0 : Int32)) hx hb d_Y_arrive_30 (by decide) ?_
        obtain ⟨b12, hb13, h⟩ := h
        rw [hb13]
        obtain ⟨n15, t14, h⟩ := h
        obtain ⟨i16, h⟩ := h
        refine z_iast hx hb hK hM hS t14 0 rfl i16 d_Y_arrive_31 (fun H locs hM hS => ?_)
        obtain ⟨M17, e18⟩ : ∃ z, z = zwI M3 b12 x1.toNatClampNeg (0 : Int32) := ⟨_, rfl⟩
        replace h := h M17 e18
        rw [← e18] at hM
        refine lv_aload_n hx hb d_Y_arrive_32 rfl (hl.at 0 rfl) ?_
        have t19 : zT M17 a0 = some (9, 40) := by rw [e18]; exact t5
        refine z_getI hx hb hW in_9 hown hK hM t19 (by decide) rfl 36 (by decide) rfl (hW _ k_621) rfl d_Y_arrive_33 ?_
        refine lv_if_eq (tgt := 49) hx hb d_Y_arrive_36 rfl (fun c20 => ?_) (fun c20 => ?_)
        · replace h := h.1 c20
          refine W.widen (k := 0) (n := 0) (by decide) (by decide) ?_
          exact b_49 M17 H locs ls a0 x1 (hl.sub [0, 1] rfl) hM hS h
        · replace h := h.2 c20
          refine lv_iload_n hx hb d_Y_arrive_39 rfl (hl.at 1 rfl) ?_
          refine lv_aload_n hx hb d_Y_arrive_40 rfl (hl.at 0 rfl) ?_
          refine z_getI hx hb hW in_9 hown hK hM t19 (by decide) rfl 38 (by decide) rfl (hW _ k_623) rfl d_Y_arrive_41 ?_
          refine lv_icmp_lt (tgt := 49) hx hb d_Y_arrive_44 rfl (fun c208 => ?_) (fun c208 => ?_)
          · replace h := h.1 c208
            refine W.widen (k := 0) (n := 0) (by decide) (by decide) ?_
            exact b_49 M17 H locs ls a0 x1 (hl.sub [0, 1] rfl) hM hS h
          · replace h := h.2 c208
            refine lv_iconst (v := (0 : Int32)) hx hb d_Y_arrive_47 (by decide) ?_
            refine W.widen (k := 0) (n := 0) (by decide) (by decide) ?_
            rw [← hQ]
            exact z_iret hx hb hr hlk hK hM hS h d_Y_arrive_48
      · replace h := h.2 c11
        refine lv_iconst (v := (-1 : Int32)) hx hb d_Y_arrive_23 (by decide) ?_
        refine W.widen (k := 0) (n := 0) (by decide) (by decide) ?_
        rw [← hQ]
        exact z_iret hx hb hr hlk hK hM hS h d_Y_arrive_24
  exact b_start M s.heap [] ls a0 x1 hl hM hS h
set_option maxHeartbeats 4000000 in
set_option maxRecDepth 100000 in
theorem c_Y_feedback (l : Launch) (ca : Nat → ClassId) (D : va_G) (M : zM) (sz : Nat) (a0 : Nat) (post : Int32 → zM → Prop) : Met l y_Y_feedback (Cond.code y_Y_feedback prog_11_method_16_code 1 (some .int) :: zws) rm_Y_feedback (zPre ca D zcl (ztys ca) [.ref a0] M sz (w_Y_feedback M a0 post)) (va_Qi post (zB ca D zcl (ztys ca) (zA M sz)) (zA M sz)) 0 0 (zA M sz) := by
  refine z_met (cc := prog_11_method_16_code) (maxL := 1) (ret := (some .int)) (plainFor_of_name (by decide)) rfl (by simp [Value.category]) (Nat.le_of_ble_eq_true rfl) ?_
  intro p e s m args below meth c ls A hx hb hr hlk hml hts hown hnm hK hN hl hA0 hM hS hA h
  rw [← hA0]
  have hW : ∀ w ∈ zws, w.before args s = true := fun w hw => hts w (List.mem_cons_of_mem _ hw)
  have hl : zL ls 1 [(0, .ref a0)] := hl
  generalize hQ : MQ below (va_Qi post (zB ca D zcl (ztys ca) A) A) args s 0 0 A = Q
  have b_start : ∀ (M : zM) (H : Heap) (locs : List Loc) (ls : Array Slot) (a0 : Nat), zL ls 1 [(0, .ref a0)] → zW ca D zcl A M H → va_S A s.heap H locs → w_Y_feedback M a0 post → W p l e rm_Y_feedback s m args below meth c H locs 0 0 Q (F0 m 0 ls []) := by
    intro M H locs ls a0 hl hM hS h
    unfold w_Y_feedback at h
    refine lv_aload_n hx hb d_Y_feedback_0 rfl (hl.at 0 rfl) ?_
    obtain ⟨t1, h⟩ := h
    refine z_getI hx hb hW in_9 hown hK hM t1 (by decide) rfl 35 (by decide) rfl (hW _ k_620) rfl d_Y_feedback_1 ?_
    refine lv_aload_n hx hb d_Y_feedback_4 rfl (hl.at 0 rfl) ?_
    refine z_getI hx hb hW in_9 hown hK hM t1 (by decide) rfl 34 (by decide) rfl (hW _ k_619) rfl d_Y_feedback_5 ?_
    refine lv_icmp_ne (tgt := 13) hx hb d_Y_feedback_8 rfl (fun c2 => ?_) (fun c2 => ?_)
    · replace h := h.2 c2
      refine lv_aload_n hx hb d_Y_feedback_13 rfl (hl.at 0 rfl) ?_
      refine lv_dup hx hb d_Y_feedback_14 rfl ?_
      refine z_getI hx hb hW in_9 hown hK hM t1 (by decide) rfl 35 (by decide) rfl (hW _ k_620) rfl d_Y_feedback_15 ?_
      refine lv_iconst (v := (1 : Int32)) hx hb d_Y_feedback_18 (by decide) ?_
      refine lv_iadd hx hb d_Y_feedback_19 ?_
      refine z_putI hx hb hW in_9 ty_9 tyok_9 nm_9 hown hK hM hS t1 (by decide) rfl 35 (by decide) rfl (hW _ k_620) rfl (Or.inl rfl) rfl rfl d_Y_feedback_20 (fun H locs hM hS => ?_)
      obtain ⟨M3, e4⟩ : ∃ z, z = zwI M a0 35 ((zI M a0 35) + (1 : Int32)) := ⟨_, rfl⟩
      replace h := h M3 e4
      rw [← e4] at hM
      refine lv_aload_n hx hb d_Y_feedback_23 rfl (hl.at 0 rfl) ?_
      have t5 : zT M3 a0 = some (9, 40) := by rw [e4]; exact t1
      refine z_getR hx hb hW in_9 hown hK hM t5 (by decide) rfl 32 (by decide) rfl (hW _ k_617) rfl d_Y_feedback_24 ?_
      refine lv_aload_n hx hb d_Y_feedback_27 rfl (hl.at 0 rfl) ?_
      refine z_getI hx hb hW in_9 hown hK hM t5 (by decide) rfl 35 (by decide) rfl (hW _ k_620) rfl d_Y_feedback_28 ?_
      refine lv_iconst (v := (1 : Int32)) hx hb d_Y_feedback_31 (by decide) ?_
      refine lv_isub hx hb d_Y_feedback_32 ?_
      obtain ⟨b6, hb7, h⟩ := h
      rw [hb7]
      obtain ⟨n9, t8, h⟩ := h
      obtain ⟨i10, h⟩ := h
      refine z_iald hx hb hK hM t8 0 rfl i10 d_Y_feedback_33 ?_
      rw [← hQ]
      exact z_iret hx hb hr hlk hK hM hS h d_Y_feedback_34
    · replace h := h.1 c2
      refine lv_iconst (v := (-1 : Int32)) hx hb d_Y_feedback_11 (by decide) ?_
      rw [← hQ]
      exact z_iret hx hb hr hlk hK hM hS h d_Y_feedback_12
  exact b_start M s.heap [] ls a0 hl hM hS h
set_option maxHeartbeats 4000000 in
set_option maxRecDepth 100000 in
theorem c_Y_goaway (l : Launch) (ca : Nat → ClassId) (D : va_G) (M : zM) (sz : Nat) (a0 : Nat) (post : Int32 → zM → Prop) : Met l y_Y_goaway (Cond.code y_Y_goaway prog_11_method_17_code 1 (some .int) :: zws) rm_Y_goaway (zPre ca D zcl (ztys ca) [.ref a0] M sz (w_Y_goaway M a0 post)) (va_Qi post (zB ca D zcl (ztys ca) (zA M sz)) (zA M sz)) 0 0 (zA M sz) := by
  refine z_met (cc := prog_11_method_17_code) (maxL := 1) (ret := (some .int)) (plainFor_of_name (by decide)) rfl (by simp [Value.category]) (Nat.le_of_ble_eq_true rfl) ?_
  intro p e s m args below meth c ls A hx hb hr hlk hml hts hown hnm hK hN hl hA0 hM hS hA h
  rw [← hA0]
  have hW : ∀ w ∈ zws, w.before args s = true := fun w hw => hts w (List.mem_cons_of_mem _ hw)
  have hl : zL ls 1 [(0, .ref a0)] := hl
  generalize hQ : MQ below (va_Qi post (zB ca D zcl (ztys ca) A) A) args s 0 0 A = Q
  have b_start : ∀ (M : zM) (H : Heap) (locs : List Loc) (ls : Array Slot) (a0 : Nat), zL ls 1 [(0, .ref a0)] → zW ca D zcl A M H → va_S A s.heap H locs → w_Y_goaway M a0 post → W p l e rm_Y_goaway s m args below meth c H locs 0 0 Q (F0 m 0 ls []) := by
    intro M H locs ls a0 hl hM hS h
    unfold w_Y_goaway at h
    refine lv_aload_n hx hb d_Y_goaway_0 rfl (hl.at 0 rfl) ?_
    obtain ⟨t1, h⟩ := h
    refine z_getI hx hb hW in_9 hown hK hM t1 (by decide) rfl 36 (by decide) rfl (hW _ k_621) rfl d_Y_goaway_1 ?_
    refine lv_if_ne (tgt := 20) hx hb d_Y_goaway_4 rfl (fun c2 => ?_) (fun c2 => ?_)
    · replace h := h.2 c2
      refine lv_aload_n hx hb d_Y_goaway_20 rfl (hl.at 0 rfl) ?_
      refine z_getI hx hb hW in_9 hown hK hM t1 (by decide) rfl 38 (by decide) rfl (hW _ k_623) rfl d_Y_goaway_21 ?_
      rw [← hQ]
      exact z_iret hx hb hr hlk hK hM hS h d_Y_goaway_24
    · replace h := h.1 c2
      refine lv_aload_n hx hb d_Y_goaway_7 rfl (hl.at 0 rfl) ?_
      refine lv_iconst (v := (1 : Int32)) hx hb d_Y_goaway_8 (by decide) ?_
      refine z_putI hx hb hW in_9 ty_9 tyok_9 nm_9 hown hK hM hS t1 (by decide) rfl 36 (by decide) rfl (hW _ k_621) rfl (Or.inl rfl) rfl rfl d_Y_goaway_9 (fun H locs hM hS => ?_)
      obtain ⟨M3, e4⟩ : ∃ z, z = zwI M a0 36 (1 : Int32) := ⟨_, rfl⟩
      replace h := h M3 e4
      rw [← e4] at hM
      refine lv_aload_n hx hb d_Y_goaway_12 rfl (hl.at 0 rfl) ?_
      refine lv_aload_n hx hb d_Y_goaway_13 rfl (hl.at 0 rfl) ?_
      have t5 : zT M3 a0 = some (9, 40) := by rw [e4]; exact t1
      refine z_getI hx hb hW in_9 hown hK hM t5 (by decide) rfl 39 (by decide) rfl (hW _ k_624) rfl d_Y_goaway_14 ?_
      refine z_putI hx hb hW in_9 ty_9 tyok_9 nm_9 hown hK hM hS t5 (by decide) rfl 38 (by decide) rfl (hW _ k_623) rfl (Or.inl rfl) rfl rfl d_Y_goaway_17 (fun H locs hM hS => ?_)
      obtain ⟨M6, e7⟩ : ∃ z, z = zwI M3 a0 38 (zI M3 a0 39) := ⟨_, rfl⟩
      replace h := h M6 e7
      rw [← e7] at hM
      refine lv_aload_n hx hb d_Y_goaway_20 rfl (hl.at 0 rfl) ?_
      have t8 : zT M6 a0 = some (9, 40) := by rw [e7]; exact t5
      refine z_getI hx hb hW in_9 hown hK hM t8 (by decide) rfl 38 (by decide) rfl (hW _ k_623) rfl d_Y_goaway_21 ?_
      rw [← hQ]
      exact z_iret hx hb hr hlk hK hM hS h d_Y_goaway_24
  exact b_start M s.heap [] ls a0 hl hM hS h
set_option maxHeartbeats 4000000 in
set_option maxRecDepth 100000 in
theorem c_Y_ask (l : Launch) (ca : Nat → ClassId) (D : va_G) (M : zM) (sz : Nat) (a0 : Nat) (x1 : Int32) (x2 : Int32) (x3 : Int32) (x4 : Int32) (post : Int32 → zM → Prop) : Met l y_Y_ask (Cond.code y_Y_ask prog_11_method_18_code 7 (some .int) :: zws) rm_Y_ask (zPre ca D zcl (ztys ca) [.ref a0, .int x1, .int x2, .int x3, .int x4] M sz (w_Y_ask M a0 x1 x2 x3 x4 post)) (va_Qi post (zB ca D zcl (ztys ca) (zA M sz)) (zA M sz)) 0 0 (zA M sz) := by
  refine z_met (cc := prog_11_method_18_code) (maxL := 7) (ret := (some .int)) (plainFor_of_name (by decide)) rfl (by simp [Value.category]) (Nat.le_of_ble_eq_true rfl) ?_
  intro p e s m args below meth c ls A hx hb hr hlk hml hts hown hnm hK hN hl hA0 hM hS hA h
  rw [← hA0]
  have hW : ∀ w ∈ zws, w.before args s = true := fun w hw => hts w (List.mem_cons_of_mem _ hw)
  have hl : zL ls 7 [(0, .ref a0), (1, .int x1), (2, .int x2), (3, .int x3), (4, .int x4)] := hl
  generalize hQ : MQ below (va_Qi post (zB ca D zcl (ztys ca) A) A) args s 0 0 A = Q
  have b_178 : ∀ (M : zM) (H : Heap) (locs : List Loc) (ls : Array Slot) (a0 : Nat) (x1 : Int32) (x2 : Int32) (x3 : Int32) (x4 : Int32) (x5 : Int32) (x6 : Int32) (w0 : Option Nat) (u1 : Int32) (u2 : Int32), zL ls 7 [(0, .ref a0), (1, .int x1), (2, .int x2), (3, .int x3), (4, .int x4), (5, .int x5), (6, .int x6)] → zW ca D zcl A M H → va_S A s.heap H locs → w_Y_ask_178 post M a0 x1 x2 x3 x4 x5 x6 w0 u1 u2 → W p l e rm_Y_ask s m args below meth c H locs 0 0 Q (F0 m 178 ls [.int u2, .int u1, va_rf w0]) := by
    intro M H locs ls a0 x1 x2 x3 x4 x5 x6 w0 u1 u2 hl hM hS h
    unfold w_Y_ask_178 at h
    obtain ⟨b62, hb63, h⟩ := h
    subst hb63
    obtain ⟨n65, t64, h⟩ := h
    obtain ⟨i66, h⟩ := h
    refine z_iast hx hb hK hM hS t64 0 rfl i66 d_Y_ask_178 (fun H locs hM hS => ?_)
    obtain ⟨M67, e68⟩ : ∃ z, z = zwI M b62 u1.toNatClampNeg u2 := ⟨_, rfl⟩
    replace h := h M67 e68
    rw [← e68] at hM
    refine lv_aload_n hx hb d_Y_ask_179 rfl (hl.at 0 rfl) ?_
    obtain ⟨t69, h⟩ := h
    refine z_getR hx hb hW in_9 hown hK hM t69 (by decide) rfl 14 (by decide) rfl (hW _ k_599) rfl d_Y_ask_180 ?_
    refine lv_iload hx hb d_Y_ask_183 (hl.at 5 rfl) ?_
    refine lv_iload hx hb d_Y_ask_185 (hl.at 6 rfl) ?_
    refine lv_if_eq (tgt := 199) hx hb d_Y_ask_187 rfl (fun c70 => ?_) (fun c70 => ?_)
    · replace h := h.1 c70
      refine lv_iconst (v := (0 : Int32)) hx hb d_Y_ask_199 (by decide) ?_
      obtain ⟨b71, hb72, h⟩ := h
      rw [hb72]
      obtain ⟨n74, t73, h⟩ := h
      obtain ⟨i75, h⟩ := h
      refine z_iast hx hb hK hM hS t73 0 rfl i75 d_Y_ask_200 (fun H locs hM hS => ?_)
      obtain ⟨M76, e77⟩ : ∃ z, z = zwI M67 b71 x5.toNatClampNeg (0 : Int32) := ⟨_, rfl⟩
      replace h := h M76 e77
      rw [← e77] at hM
      refine lv_iload hx hb d_Y_ask_201 (hl.at 5 rfl) ?_
      rw [← hQ]
      exact z_iret hx hb hr hlk hK hM hS h d_Y_ask_203
    · replace h := h.2 c70
      refine lv_aload_n hx hb d_Y_ask_190 rfl (hl.at 0 rfl) ?_
      refine z_getR hx hb hW in_9 hown hK hM t69 (by decide) rfl 23 (by decide) rfl (hW _ k_608) rfl d_Y_ask_191 ?_
      refine lv_iload_n hx hb d_Y_ask_194 rfl (hl.at 1 rfl) ?_
      obtain ⟨b78, hb79, h⟩ := h
      rw [hb79]
      obtain ⟨n81, t80, h⟩ := h
      obtain ⟨i82, h⟩ := h
      refine z_iald hx hb hK hM t80 0 rfl i82 d_Y_ask_195 ?_
      refine lv_goto (tgt := 200) hx hb d_Y_ask_196 rfl ?_
      obtain ⟨b83, hb84, h⟩ := h
      rw [hb84]
      obtain ⟨n86, t85, h⟩ := h
      obtain ⟨i87, h⟩ := h
      refine z_iast hx hb hK hM hS t85 0 rfl i87 d_Y_ask_200 (fun H locs hM hS => ?_)
      obtain ⟨M88, e89⟩ : ∃ z, z = zwI M67 b83 x5.toNatClampNeg (zI M67 b78 x1.toNatClampNeg) := ⟨_, rfl⟩
      replace h := h M88 e89
      rw [← e89] at hM
      refine lv_iload hx hb d_Y_ask_201 (hl.at 5 rfl) ?_
      rw [← hQ]
      exact z_iret hx hb hr hlk hK hM hS h d_Y_ask_203
  have b_start : ∀ (M : zM) (H : Heap) (locs : List Loc) (ls : Array Slot) (a0 : Nat) (x1 : Int32) (x2 : Int32) (x3 : Int32) (x4 : Int32), zL ls 7 [(0, .ref a0), (1, .int x1), (2, .int x2), (3, .int x3), (4, .int x4)] → zW ca D zcl A M H → va_S A s.heap H locs → w_Y_ask M a0 x1 x2 x3 x4 post → W p l e rm_Y_ask s m args below meth c H locs 0 0 Q (F0 m 0 ls []) := by
    intro M H locs ls a0 x1 x2 x3 x4 hl hM hS h
    unfold w_Y_ask at h
    refine lv_aload_n hx hb d_Y_ask_0 rfl (hl.at 0 rfl) ?_
    obtain ⟨t1, h⟩ := h
    refine z_getI hx hb hW in_9 hown hK hM t1 (by decide) rfl 6 (by decide) rfl (hW _ k_591) rfl d_Y_ask_1 ?_
    refine z_istore hx hb d_Y_ask_4 hl (by decide) rfl (fun ls hl => ?_)
    have hl : zL ls 7 [(5, .int (zI M a0 6)), (0, .ref a0), (1, .int x1), (2, .int x2), (3, .int x3), (4, .int x4)] := hl
    refine lv_aload_n hx hb d_Y_ask_6 rfl (hl.at 1 rfl) ?_
    refine lv_dup hx hb d_Y_ask_7 rfl ?_
    refine z_getI hx hb hW in_9 hown hK hM t1 (by decide) rfl 6 (by decide) rfl (hW _ k_591) rfl d_Y_ask_8 ?_
    refine lv_iconst (v := (1 : Int32)) hx hb d_Y_ask_11 (by decide) ?_
    refine lv_iadd hx hb d_Y_ask_12 ?_
    refine z_putI hx hb hW in_9 ty_9 tyok_9 nm_9 hown hK hM hS t1 (by decide) rfl 6 (by decide) rfl (hW _ k_591) rfl (Or.inl rfl) rfl rfl d_Y_ask_13 (fun H locs hM hS => ?_)
    obtain ⟨M2, e3⟩ : ∃ z, z = zwI M a0 6 ((zI M a0 6) + (1 : Int32)) := ⟨_, rfl⟩
    replace h := h M2 e3
    rw [← e3] at hM
    refine lv_aload_n hx hb d_Y_ask_16 rfl (hl.at 1 rfl) ?_
    have t4 : zT M2 a0 = some (9, 40) := by rw [e3]; exact t1
    refine z_getR hx hb hW in_9 hown hK hM t4 (by decide) rfl 7 (by decide) rfl (hW _ k_592) rfl d_Y_ask_17 ?_
    refine lv_iload hx hb d_Y_ask_20 (hl.at 0 rfl) ?_
    refine lv_iload_n hx hb d_Y_ask_22 rfl (hl.at 3 rfl) ?_
    obtain ⟨b5, hb6, h⟩ := h
    rw [hb6]
    obtain ⟨n8, t7, h⟩ := h
    obtain ⟨i9, h⟩ := h
    refine z_zast hx hb hK hM hS t7 1 rfl i9 d_Y_ask_23 (fun H locs hM hS => ?_)
    obtain ⟨M10, e11⟩ : ∃ z, z = zwI M2 b5 (zI M a0 6).toNatClampNeg (vp_nar .boolean x2) := ⟨_, rfl⟩
    replace h := h M10 e11
    rw [← e11] at hM
    refine lv_aload_n hx hb d_Y_ask_24 rfl (hl.at 1 rfl) ?_
    have t12 : zT M10 a0 = some (9, 40) := by rw [e11]; exact t4
    refine z_getR hx hb hW in_9 hown hK hM t12 (by decide) rfl 8 (by decide) rfl (hW _ k_593) rfl d_Y_ask_25 ?_
    refine lv_iload hx hb d_Y_ask_28 (hl.at 0 rfl) ?_
    refine lv_iload_n hx hb d_Y_ask_30 rfl (hl.at 2 rfl) ?_
    obtain ⟨b13, hb14, h⟩ := h
    rw [hb14]
    obtain ⟨n16, t15, h⟩ := h
    obtain ⟨i17, h⟩ := h
    refine z_iast hx hb hK hM hS t15 0 rfl i17 d_Y_ask_31 (fun H locs hM hS => ?_)
    obtain ⟨M18, e19⟩ : ∃ z, z = zwI M10 b13 (zI M a0 6).toNatClampNeg x1 := ⟨_, rfl⟩
    replace h := h M18 e19
    rw [← e19] at hM
    refine lv_aload_n hx hb d_Y_ask_32 rfl (hl.at 1 rfl) ?_
    have t20 : zT M18 a0 = some (9, 40) := by rw [e19]; exact t12
    refine z_getR hx hb hW in_9 hown hK hM t20 (by decide) rfl 10 (by decide) rfl (hW _ k_595) rfl d_Y_ask_33 ?_
    refine lv_iload hx hb d_Y_ask_36 (hl.at 0 rfl) ?_
    refine lv_iload_n hx hb d_Y_ask_38 rfl (hl.at 4 rfl) ?_
    obtain ⟨b21, hb22, h⟩ := h
    rw [hb22]
    obtain ⟨n24, t23, h⟩ := h
    obtain ⟨i25, h⟩ := h
    refine z_iast hx hb hK hM hS t23 0 rfl i25 d_Y_ask_39 (fun H locs hM hS => ?_)
    obtain ⟨M26, e27⟩ : ∃ z, z = zwI M18 b21 (zI M a0 6).toNatClampNeg x3 := ⟨_, rfl⟩
    replace h := h M26 e27
    rw [← e27] at hM
    refine lv_aload_n hx hb d_Y_ask_40 rfl (hl.at 1 rfl) ?_
    have t28 : zT M26 a0 = some (9, 40) := by rw [e27]; exact t20
    refine z_getR hx hb hW in_9 hown hK hM t28 (by decide) rfl 11 (by decide) rfl (hW _ k_596) rfl d_Y_ask_41 ?_
    refine lv_iload hx hb d_Y_ask_44 (hl.at 0 rfl) ?_
    refine lv_iload hx hb d_Y_ask_46 (hl.at 5 rfl) ?_
    obtain ⟨b29, hb30, h⟩ := h
    rw [hb30]
    obtain ⟨n32, t31, h⟩ := h
    obtain ⟨i33, h⟩ := h
    refine z_iast hx hb hK hM hS t31 0 rfl i33 d_Y_ask_48 (fun H locs hM hS => ?_)
    obtain ⟨M34, e35⟩ : ∃ z, z = zwI M26 b29 (zI M a0 6).toNatClampNeg x4 := ⟨_, rfl⟩
    replace h := h M34 e35
    rw [← e35] at hM
    refine lv_aload_n hx hb d_Y_ask_49 rfl (hl.at 1 rfl) ?_
    have t36 : zT M34 a0 = some (9, 40) := by rw [e35]; exact t28
    refine z_getR hx hb hW in_9 hown hK hM t36 (by decide) rfl 21 (by decide) rfl (hW _ k_606) rfl d_Y_ask_50 ?_
    refine lv_iload_n hx hb d_Y_ask_53 rfl (hl.at 2 rfl) ?_
    obtain ⟨b37, hb38, h⟩ := h
    rw [hb38]
    obtain ⟨n40, t39, h⟩ := h
    obtain ⟨i41, h⟩ := h
    refine z_iald hx hb hK hM t39 0 rfl i41 d_Y_ask_54 ?_
    refine lv_if_lt (tgt := 62) hx hb d_Y_ask_55 rfl (fun c42 => ?_) (fun c42 => ?_)
    · replace h := h.1 c42
      refine lv_iconst (v := (0 : Int32)) hx hb d_Y_ask_62 (by decide) ?_
      refine z_istore hx hb d_Y_ask_63 hl (by decide) rfl (fun ls hl => ?_)
      have hl : zL ls 7 [(6, .int (0 : Int32)), (5, .int (zI M a0 6)), (0, .ref a0), (1, .int x1), (2, .int x2), (3, .int x3), (4, .int x4)] := hl
      refine lv_iload_n hx hb d_Y_ask_65 rfl (hl.at 4 rfl) ?_
      refine lv_if_ne (tgt := 119) hx hb d_Y_ask_66 rfl (fun c43 => ?_) (fun c43 => ?_)
      · replace h := h.2 c43
        refine lv_aload_n hx hb d_Y_ask_119 rfl (hl.at 2 rfl) ?_
        refine z_getI hx hb hW in_9 hown hK hM t36 (by decide) rfl 37 (by decide) rfl (hW _ k_622) rfl d_Y_ask_120 ?_
        refine lv_if_eq (tgt := 138) hx hb d_Y_ask_123 rfl (fun c44 => ?_) (fun c44 => ?_)
        · replace h := h.1 c44
          refine lv_aload_n hx hb d_Y_ask_138 rfl (hl.at 2 rfl) ?_
          refine z_getR hx hb hW in_9 hown hK hM t36 (by decide) rfl 15 (by decide) rfl (hW _ k_600) rfl d_Y_ask_139 ?_
          refine lv_iload hx hb d_Y_ask_142 (hl.at 1 rfl) ?_
          refine lv_iconst (v := (1 : Int32)) hx hb d_Y_ask_144 (by decide) ?_
          obtain ⟨b45, hb46, h⟩ := h
          rw [hb46]
          obtain ⟨n48, t47, h⟩ := h
          obtain ⟨i49, h⟩ := h
          refine z_iast hx hb hK hM hS t47 0 rfl i49 d_Y_ask_145 (fun H locs hM hS => ?_)
          obtain ⟨M50, e51⟩ : ∃ z, z = zwI M34 b45 (zI M a0 6).toNatClampNeg (1 : Int32) := ⟨_, rfl⟩
          replace h := h M50 e51
          rw [← e51] at hM
          refine lv_aload_n hx hb d_Y_ask_146 rfl (hl.at 2 rfl) ?_
          have t52 : zT M50 a0 = some (9, 40) := by rw [e51]; exact t36
          refine z_getR hx hb hW in_9 hown hK hM t52 (by decide) rfl 13 (by decide) rfl (hW _ k_598) rfl d_Y_ask_147 ?_
          refine lv_iload hx hb d_Y_ask_150 (hl.at 1 rfl) ?_
          refine lv_aload_n hx hb d_Y_ask_152 rfl (hl.at 2 rfl) ?_
          refine z_getI hx hb hW in_9 hown hK hM t52 (by decide) rfl 5 (by decide) rfl (hW _ k_590) rfl d_Y_ask_153 ?_
          obtain ⟨b53, hb54, h⟩ := h
          rw [hb54]
          obtain ⟨n56, t55, h⟩ := h
          obtain ⟨i57, h⟩ := h
          refine z_iast hx hb hK hM hS t55 0 rfl i57 d_Y_ask_156 (fun H locs hM hS => ?_)
          obtain ⟨M58, e59⟩ : ∃ z, z = zwI M50 b53 (zI M a0 6).toNatClampNeg (zI M50 a0 5) := ⟨_, rfl⟩
          replace h := h M58 e59
          rw [← e59] at hM
          refine lv_aload_n hx hb d_Y_ask_157 rfl (hl.at 2 rfl) ?_
          have t60 : zT M58 a0 = some (9, 40) := by rw [e59]; exact t52
          refine z_getR hx hb hW in_9 hown hK hM t60 (by decide) rfl 12 (by decide) rfl (hW _ k_597) rfl d_Y_ask_158 ?_
          refine lv_iload hx hb d_Y_ask_161 (hl.at 1 rfl) ?_
          refine lv_iload hx hb d_Y_ask_163 (hl.at 0 rfl) ?_
          refine lv_if_eq (tgt := 177) hx hb d_Y_ask_165 rfl (fun c61 => ?_) (fun c61 => ?_)
          · replace h := h.1 c61
            refine lv_iconst (v := (0 : Int32)) hx hb d_Y_ask_177 (by decide) ?_
            exact b_178 M58 H locs ls a0 x1 x2 x3 x4 (zI M a0 6) (0 : Int32) (zR M58 a0 12) (zI M a0 6) (0 : Int32) (hl.sub [2, 3, 4, 5, 6, 1, 0] rfl) hM hS h
          · replace h := h.2 c61
            refine lv_aload_n hx hb d_Y_ask_168 rfl (hl.at 2 rfl) ?_
            refine z_getR hx hb hW in_9 hown hK hM t60 (by decide) rfl 22 (by decide) rfl (hW _ k_607) rfl d_Y_ask_169 ?_
            refine lv_iload_n hx hb d_Y_ask_172 rfl (hl.at 3 rfl) ?_
            obtain ⟨b90, hb91, h⟩ := h
            rw [hb91]
            obtain ⟨n93, t92, h⟩ := h
            obtain ⟨i94, h⟩ := h
            refine z_iald hx hb hK hM t92 0 rfl i94 d_Y_ask_173 ?_
            refine lv_goto (tgt := 178) hx hb d_Y_ask_174 rfl ?_
            exact b_178 M58 H locs ls a0 x1 x2 x3 x4 (zI M a0 6) (0 : Int32) (zR M58 a0 12) (zI M a0 6) (zI M58 b90 x1.toNatClampNeg) (hl.sub [2, 3, 4, 5, 6, 1, 0] rfl) hM hS h
        · replace h := h.2 c44
          refine lv_aload_n hx hb d_Y_ask_126 rfl (hl.at 2 rfl) ?_
          refine z_getR hx hb hW in_9 hown hK hM t36 (by decide) rfl 9 (by decide) rfl (hW _ k_594) rfl d_Y_ask_127 ?_
          refine lv_iload hx hb d_Y_ask_130 (hl.at 1 rfl) ?_
          refine lv_bipush (v := (7 : Int32)) hx hb d_Y_ask_132 (by decide) ?_
          obtain ⟨b95, hb96, h⟩ := h
          rw [hb96]
          obtain ⟨n98, t97, h⟩ := h
          obtain ⟨i99, h⟩ := h
          refine z_iast hx hb hK hM hS t97 0 rfl i99 d_Y_ask_134 (fun H locs hM hS => ?_)
          obtain ⟨M100, e101⟩ : ∃ z, z = zwI M34 b95 (zI M a0 6).toNatClampNeg (7 : Int32) := ⟨_, rfl⟩
          replace h := h M100 e101
          rw [← e101] at hM
          refine lv_goto (tgt := 201) hx hb d_Y_ask_135 rfl ?_
          refine lv_iload hx hb d_Y_ask_201 (hl.at 1 rfl) ?_
          rw [← hQ]
          exact z_iret hx hb hr hlk hK hM hS h d_Y_ask_203
      · replace h := h.1 c43
        refine lv_iload hx hb d_Y_ask_69 (hl.at 0 rfl) ?_
        refine lv_if_eq (tgt := 119) hx hb d_Y_ask_71 rfl (fun c102 => ?_) (fun c102 => ?_)
        · replace h := h.1 c102
          refine lv_aload_n hx hb d_Y_ask_119 rfl (hl.at 2 rfl) ?_
          refine z_getI hx hb hW in_9 hown hK hM t36 (by decide) rfl 37 (by decide) rfl (hW _ k_622) rfl d_Y_ask_120 ?_
          refine lv_if_eq (tgt := 138) hx hb d_Y_ask_123 rfl (fun c103 => ?_) (fun c103 => ?_)
          · replace h := h.1 c103
            refine lv_aload_n hx hb d_Y_ask_138 rfl (hl.at 2 rfl) ?_
            refine z_getR hx hb hW in_9 hown hK hM t36 (by decide) rfl 15 (by decide) rfl (hW _ k_600) rfl d_Y_ask_139 ?_
            refine lv_iload hx hb d_Y_ask_142 (hl.at 1 rfl) ?_
            refine lv_iconst (v := (1 : Int32)) hx hb d_Y_ask_144 (by decide) ?_
            obtain ⟨b104, hb105, h⟩ := h
            rw [hb105]
            obtain ⟨n107, t106, h⟩ := h
            obtain ⟨i108, h⟩ := h
            refine z_iast hx hb hK hM hS t106 0 rfl i108 d_Y_ask_145 (fun H locs hM hS => ?_)
            obtain ⟨M109, e110⟩ : ∃ z, z = zwI M34 b104 (zI M a0 6).toNatClampNeg (1 : Int32) := ⟨_, rfl⟩
            replace h := h M109 e110
            rw [← e110] at hM
            refine lv_aload_n hx hb d_Y_ask_146 rfl (hl.at 2 rfl) ?_
            have t111 : zT M109 a0 = some (9, 40) := by rw [e110]; exact t36
            refine z_getR hx hb hW in_9 hown hK hM t111 (by decide) rfl 13 (by decide) rfl (hW _ k_598) rfl d_Y_ask_147 ?_
            refine lv_iload hx hb d_Y_ask_150 (hl.at 1 rfl) ?_
            refine lv_aload_n hx hb d_Y_ask_152 rfl (hl.at 2 rfl) ?_
            refine z_getI hx hb hW in_9 hown hK hM t111 (by decide) rfl 5 (by decide) rfl (hW _ k_590) rfl d_Y_ask_153 ?_
            obtain ⟨b112, hb113, h⟩ := h
            rw [hb113]
            obtain ⟨n115, t114, h⟩ := h
            obtain ⟨i116, h⟩ := h
            refine z_iast hx hb hK hM hS t114 0 rfl i116 d_Y_ask_156 (fun H locs hM hS => ?_)
            obtain ⟨M117, e118⟩ : ∃ z, z = zwI M109 b112 (zI M a0 6).toNatClampNeg (zI M109 a0 5) := ⟨_, rfl⟩
            replace h := h M117 e118
            rw [← e118] at hM
            refine lv_aload_n hx hb d_Y_ask_157 rfl (hl.at 2 rfl) ?_
            have t119 : zT M117 a0 = some (9, 40) := by rw [e118]; exact t111
            refine z_getR hx hb hW in_9 hown hK hM t119 (by decide) rfl 12 (by decide) rfl (hW _ k_597) rfl d_Y_ask_158 ?_
            refine lv_iload hx hb d_Y_ask_161 (hl.at 1 rfl) ?_
            refine lv_iload hx hb d_Y_ask_163 (hl.at 0 rfl) ?_
            refine lv_if_eq (tgt := 177) hx hb d_Y_ask_165 rfl (fun c120 => ?_) (fun c120 => ?_)
            · replace h := h.1 c120
              refine lv_iconst (v := (0 : Int32)) hx hb d_Y_ask_177 (by decide) ?_
              exact b_178 M117 H locs ls a0 x1 x2 x3 x4 (zI M a0 6) (0 : Int32) (zR M117 a0 12) (zI M a0 6) (0 : Int32) (hl.sub [2, 3, 4, 5, 6, 1, 0] rfl) hM hS h
            · replace h := h.2 c120
              refine lv_aload_n hx hb d_Y_ask_168 rfl (hl.at 2 rfl) ?_
              refine z_getR hx hb hW in_9 hown hK hM t119 (by decide) rfl 22 (by decide) rfl (hW _ k_607) rfl d_Y_ask_169 ?_
              refine lv_iload_n hx hb d_Y_ask_172 rfl (hl.at 3 rfl) ?_
              obtain ⟨b121, hb122, h⟩ := h
              rw [hb122]
              obtain ⟨n124, t123, h⟩ := h
              obtain ⟨i125, h⟩ := h
              refine z_iald hx hb hK hM t123 0 rfl i125 d_Y_ask_173 ?_
              refine lv_goto (tgt := 178) hx hb d_Y_ask_174 rfl ?_
              exact b_178 M117 H locs ls a0 x1 x2 x3 x4 (zI M a0 6) (0 : Int32) (zR M117 a0 12) (zI M a0 6) (zI M117 b121 x1.toNatClampNeg) (hl.sub [2, 3, 4, 5, 6, 1, 0] rfl) hM hS h
          · replace h := h.2 c103
            refine lv_aload_n hx hb d_Y_ask_126 rfl (hl.at 2 rfl) ?_
            refine z_getR hx hb hW in_9 hown hK hM t36 (by decide) rfl 9 (by decide) rfl (hW _ k_594) rfl d_Y_ask_127 ?_
            refine lv_iload hx hb d_Y_ask_130 (hl.at 1 rfl) ?_
            refine lv_bipush (v := (7 : Int32)) hx hb d_Y_ask_132 (by decide) ?_
            obtain ⟨b126, hb127, h⟩ := h
            rw [hb127]
            obtain ⟨n129, t128, h⟩ := h
            obtain ⟨i130, h⟩ := h
            refine z_iast hx hb hK hM hS t128 0 rfl i130 d_Y_ask_134 (fun H locs hM hS => ?_)
            obtain ⟨M131, e132⟩ : ∃ z, z = zwI M34 b126 (zI M a0 6).toNatClampNeg (7 : Int32) := ⟨_, rfl⟩
            replace h := h M131 e132
            rw [← e132] at hM
            refine lv_goto (tgt := 201) hx hb d_Y_ask_135 rfl ?_
            refine lv_iload hx hb d_Y_ask_201 (hl.at 1 rfl) ?_
            rw [← hQ]
            exact z_iret hx hb hr hlk hK hM hS h d_Y_ask_203
        · replace h := h.2 c102
          refine lv_aload_n hx hb d_Y_ask_74 rfl (hl.at 2 rfl) ?_
          refine z_getI hx hb hW in_9 hown hK hM t36 (by decide) rfl 5 (by decide) rfl (hW _ k_590) rfl d_Y_ask_75 ?_
          refine lv_aload_n hx hb d_Y_ask_78 rfl (hl.at 2 rfl) ?_
          refine z_getR hx hb hW in_9 hown hK hM t36 (by decide) rfl 25 (by decide) rfl (hW _ k_610) rfl d_Y_ask_79 ?_
          refine lv_iload_n hx hb d_Y_ask_82 rfl (hl.at 3 rfl) ?_
          obtain ⟨b133, hb134, h⟩ := h
          rw [hb134]
          obtain ⟨n136, t135, h⟩ := h
          obtain ⟨i137, h⟩ := h
          refine z_iald hx hb hK hM t135 0 rfl i137 d_Y_ask_83 ?_
          refine lv_isub hx hb d_Y_ask_84 ?_
          refine lv_aload_n hx hb d_Y_ask_85 rfl (hl.at 2 rfl) ?_
          refine z_getR hx hb hW in_9 hown hK hM t36 (by decide) rfl 24 (by decide) rfl (hW _ k_609) rfl d_Y_ask_86 ?_
          refine lv_iload_n hx hb d_Y_ask_89 rfl (hl.at 3 rfl) ?_
          obtain ⟨b138, hb139, h⟩ := h
          rw [hb139]
          obtain ⟨n141, t140, h⟩ := h
          obtain ⟨i142, h⟩ := h
          refine z_iald hx hb hK hM t140 0 rfl i142 d_Y_ask_90 ?_
          refine lv_icmp_ge (tgt := 119) hx hb d_Y_ask_91 rfl (fun c143 => ?_) (fun c143 => ?_)
          · replace h := h.1 c143
            refine lv_aload_n hx hb d_Y_ask_119 rfl (hl.at 2 rfl) ?_
            refine z_getI hx hb hW in_9 hown hK hM t36 (by decide) rfl 37 (by decide) rfl (hW _ k_622) rfl d_Y_ask_120 ?_
            refine lv_if_eq (tgt := 138) hx hb d_Y_ask_123 rfl (fun c144 => ?_) (fun c144 => ?_)
            · replace h := h.1 c144
              refine lv_aload_n hx hb d_Y_ask_138 rfl (hl.at 2 rfl) ?_
              refine z_getR hx hb hW in_9 hown hK hM t36 (by decide) rfl 15 (by decide) rfl (hW _ k_600) rfl d_Y_ask_139 ?_
              refine lv_iload hx hb d_Y_ask_142 (hl.at 1 rfl) ?_
              refine lv_iconst (v := (1 : Int32)) hx hb d_Y_ask_144 (by decide) ?_
              obtain ⟨b145, hb146, h⟩ := h
              rw [hb146]
              obtain ⟨n148, t147, h⟩ := h
              obtain ⟨i149, h⟩ := h
              refine z_iast hx hb hK hM hS t147 0 rfl i149 d_Y_ask_145 (fun H locs hM hS => ?_)
              obtain ⟨M150, e151⟩ : ∃ z, z = zwI M34 b145 (zI M a0 6).toNatClampNeg (1 : Int32) := ⟨_, rfl⟩
              replace h := h M150 e151
              rw [← e151] at hM
              refine lv_aload_n hx hb d_Y_ask_146 rfl (hl.at 2 rfl) ?_
              have t152 : zT M150 a0 = some (9, 40) := by rw [e151]; exact t36
              refine z_getR hx hb hW in_9 hown hK hM t152 (by decide) rfl 13 (by decide) rfl (hW _ k_598) rfl d_Y_ask_147 ?_
              refine lv_iload hx hb d_Y_ask_150 (hl.at 1 rfl) ?_
              refine lv_aload_n hx hb d_Y_ask_152 rfl (hl.at 2 rfl) ?_
              refine z_getI hx hb hW in_9 hown hK hM t152 (by decide) rfl 5 (by decide) rfl (hW _ k_590) rfl d_Y_ask_153 ?_
              obtain ⟨b153, hb154, h⟩ := h
              rw [hb154]
              obtain ⟨n156, t155, h⟩ := h
              obtain ⟨i157, h⟩ := h
              refine z_iast hx hb hK hM hS t155 0 rfl i157 d_Y_ask_156 (fun H locs hM hS => ?_)
              obtain ⟨M158, e159⟩ : ∃ z, z = zwI M150 b153 (zI M a0 6).toNatClampNeg (zI M150 a0 5) := ⟨_, rfl⟩
              replace h := h M158 e159
              rw [← e159] at hM
              refine lv_aload_n hx hb d_Y_ask_157 rfl (hl.at 2 rfl) ?_
              have t160 : zT M158 a0 = some (9, 40) := by rw [e159]; exact t152
              refine z_getR hx hb hW in_9 hown hK hM t160 (by decide) rfl 12 (by decide) rfl (hW _ k_597) rfl d_Y_ask_158 ?_
              refine lv_iload hx hb d_Y_ask_161 (hl.at 1 rfl) ?_
              refine lv_iload hx hb d_Y_ask_163 (hl.at 0 rfl) ?_
              refine lv_if_eq (tgt := 177) hx hb d_Y_ask_165 rfl (fun c161 => ?_) (fun c161 => ?_)
              · replace h := h.1 c161
                refine lv_iconst (v := (0 : Int32)) hx hb d_Y_ask_177 (by decide) ?_
                exact b_178 M158 H locs ls a0 x1 x2 x3 x4 (zI M a0 6) (0 : Int32) (zR M158 a0 12) (zI M a0 6) (0 : Int32) (hl.sub [2, 3, 4, 5, 6, 1, 0] rfl) hM hS h
              · replace h := h.2 c161
                refine lv_aload_n hx hb d_Y_ask_168 rfl (hl.at 2 rfl) ?_
                refine z_getR hx hb hW in_9 hown hK hM t160 (by decide) rfl 22 (by decide) rfl (hW _ k_607) rfl d_Y_ask_169 ?_
                refine lv_iload_n hx hb d_Y_ask_172 rfl (hl.at 3 rfl) ?_
                obtain ⟨b162, hb163, h⟩ := h
                rw [hb163]
                obtain ⟨n165, t164, h⟩ := h
                obtain ⟨i166, h⟩ := h
                refine z_iald hx hb hK hM t164 0 rfl i166 d_Y_ask_173 ?_
                refine lv_goto (tgt := 178) hx hb d_Y_ask_174 rfl ?_
                exact b_178 M158 H locs ls a0 x1 x2 x3 x4 (zI M a0 6) (0 : Int32) (zR M158 a0 12) (zI M a0 6) (zI M158 b162 x1.toNatClampNeg) (hl.sub [2, 3, 4, 5, 6, 1, 0] rfl) hM hS h
            · replace h := h.2 c144
              refine lv_aload_n hx hb d_Y_ask_126 rfl (hl.at 2 rfl) ?_
              refine z_getR hx hb hW in_9 hown hK hM t36 (by decide) rfl 9 (by decide) rfl (hW _ k_594) rfl d_Y_ask_127 ?_
              refine lv_iload hx hb d_Y_ask_130 (hl.at 1 rfl) ?_
              refine lv_bipush (v := (7 : Int32)) hx hb d_Y_ask_132 (by decide) ?_
              obtain ⟨b167, hb168, h⟩ := h
              rw [hb168]
              obtain ⟨n170, t169, h⟩ := h
              obtain ⟨i171, h⟩ := h
              refine z_iast hx hb hK hM hS t169 0 rfl i171 d_Y_ask_134 (fun H locs hM hS => ?_)
              obtain ⟨M172, e173⟩ : ∃ z, z = zwI M34 b167 (zI M a0 6).toNatClampNeg (7 : Int32) := ⟨_, rfl⟩
              replace h := h M172 e173
              rw [← e173] at hM
              refine lv_goto (tgt := 201) hx hb d_Y_ask_135 rfl ?_
              refine lv_iload hx hb d_Y_ask_201 (hl.at 1 rfl) ?_
              rw [← hQ]
              exact z_iret hx hb hr hlk hK hM hS h d_Y_ask_203
          · replace h := h.2 c143
            refine lv_aload_n hx hb d_Y_ask_94 rfl (hl.at 2 rfl) ?_
            refine z_getR hx hb hW in_9 hown hK hM t36 (by decide) rfl 9 (by decide) rfl (hW _ k_594) rfl d_Y_ask_95 ?_
            refine lv_iload hx hb d_Y_ask_98 (hl.at 1 rfl) ?_
            refine lv_bipush (v := (8 : Int32)) hx hb d_Y_ask_100 (by decide) ?_
            obtain ⟨b174, hb175, h⟩ := h
            rw [hb175]
            obtain ⟨n177, t176, h⟩ := h
            obtain ⟨i178, h⟩ := h
            refine z_iast hx hb hK hM hS t176 0 rfl i178 d_Y_ask_102 (fun H locs hM hS => ?_)
            obtain ⟨M179, e180⟩ : ∃ z, z = zwI M34 b174 (zI M a0 6).toNatClampNeg (8 : Int32) := ⟨_, rfl⟩
            replace h := h M179 e180
            rw [← e180] at hM
            refine lv_aload_n hx hb d_Y_ask_103 rfl (hl.at 2 rfl) ?_
            have t181 : zT M179 a0 = some (9, 40) := by rw [e180]; exact t36
            refine z_getR hx hb hW in_9 hown hK hM t181 (by decide) rfl 14 (by decide) rfl (hW _ k_599) rfl d_Y_ask_104 ?_
            refine lv_iload hx hb d_Y_ask_107 (hl.at 1 rfl) ?_
            refine lv_aload_n hx hb d_Y_ask_109 rfl (hl.at 2 rfl) ?_
            refine z_getR hx hb hW in_9 hown hK hM t181 (by decide) rfl 23 (by decide) rfl (hW _ k_608) rfl d_Y_ask_110 ?_
            refine lv_iload_n hx hb d_Y_ask_113 rfl (hl.at 3 rfl) ?_
            obtain ⟨b182, hb183, h⟩ := h
            rw [hb183]
            obtain ⟨n185, t184, h⟩ := h
            obtain ⟨i186, h⟩ := h
            refine z_iald hx hb hK hM t184 0 rfl i186 d_Y_ask_114 ?_
            obtain ⟨b187, hb188, h⟩ := h
            rw [hb188]
            obtain ⟨n190, t189, h⟩ := h
            obtain ⟨i191, h⟩ := h
            refine z_iast hx hb hK hM hS t189 0 rfl i191 d_Y_ask_115 (fun H locs hM hS => ?_)
            obtain ⟨M192, e193⟩ : ∃ z, z = zwI M179 b187 (zI M a0 6).toNatClampNeg (zI M179 b182 x1.toNatClampNeg) := ⟨_, rfl⟩
            replace h := h M192 e193
            rw [← e193] at hM
            refine lv_goto (tgt := 201) hx hb d_Y_ask_116 rfl ?_
            refine lv_iload hx hb d_Y_ask_201 (hl.at 1 rfl) ?_
            rw [← hQ]
            exact z_iret hx hb hr hlk hK hM hS h d_Y_ask_203
    · replace h := h.2 c42
      refine lv_iconst (v := (1 : Int32)) hx hb d_Y_ask_58 (by decide) ?_
      refine lv_goto (tgt := 63) hx hb d_Y_ask_59 rfl ?_
      refine z_istore hx hb d_Y_ask_63 hl (by decide) rfl (fun ls hl => ?_)
      have hl : zL ls 7 [(6, .int (1 : Int32)), (5, .int (zI M a0 6)), (0, .ref a0), (1, .int x1), (2, .int x2), (3, .int x3), (4, .int x4)] := hl
      refine lv_iload_n hx hb d_Y_ask_65 rfl (hl.at 4 rfl) ?_
      refine lv_if_ne (tgt := 119) hx hb d_Y_ask_66 rfl (fun c194 => ?_) (fun c194 => ?_)
      · replace h := h.2 c194
        refine lv_aload_n hx hb d_Y_ask_119 rfl (hl.at 2 rfl) ?_
        refine z_getI hx hb hW in_9 hown hK hM t36 (by decide) rfl 37 (by decide) rfl (hW _ k_622) rfl d_Y_ask_120 ?_
        refine lv_if_eq (tgt := 138) hx hb d_Y_ask_123 rfl (fun c195 => ?_) (fun c195 => ?_)
        · replace h := h.1 c195
          refine lv_aload_n hx hb d_Y_ask_138 rfl (hl.at 2 rfl) ?_
          refine z_getR hx hb hW in_9 hown hK hM t36 (by decide) rfl 15 (by decide) rfl (hW _ k_600) rfl d_Y_ask_139 ?_
          refine lv_iload hx hb d_Y_ask_142 (hl.at 1 rfl) ?_
          refine lv_iconst (v := (1 : Int32)) hx hb d_Y_ask_144 (by decide) ?_
          obtain ⟨b196, hb197, h⟩ := h
          rw [hb197]
          obtain ⟨n199, t198, h⟩ := h
          obtain ⟨i200, h⟩ := h
          refine z_iast hx hb hK hM hS t198 0 rfl i200 d_Y_ask_145 (fun H locs hM hS => ?_)
          obtain ⟨M201, e202⟩ : ∃ z, z = zwI M34 b196 (zI M a0 6).toNatClampNeg (1 : Int32) := ⟨_, rfl⟩
          replace h := h M201 e202
          rw [← e202] at hM
          refine lv_aload_n hx hb d_Y_ask_146 rfl (hl.at 2 rfl) ?_
          have t203 : zT M201 a0 = some (9, 40) := by rw [e202]; exact t36
          refine z_getR hx hb hW in_9 hown hK hM t203 (by decide) rfl 13 (by decide) rfl (hW _ k_598) rfl d_Y_ask_147 ?_
          refine lv_iload hx hb d_Y_ask_150 (hl.at 1 rfl) ?_
          refine lv_aload_n hx hb d_Y_ask_152 rfl (hl.at 2 rfl) ?_
          refine z_getI hx hb hW in_9 hown hK hM t203 (by decide) rfl 5 (by decide) rfl (hW _ k_590) rfl d_Y_ask_153 ?_
          obtain ⟨b204, hb205, h⟩ := h
          rw [hb205]
          obtain ⟨n207, t206, h⟩ := h
          obtain ⟨i208, h⟩ := h
          refine z_iast hx hb hK hM hS t206 0 rfl i208 d_Y_ask_156 (fun H locs hM hS => ?_)
          obtain ⟨M209, e210⟩ : ∃ z, z = zwI M201 b204 (zI M a0 6).toNatClampNeg (zI M201 a0 5) := ⟨_, rfl⟩
          replace h := h M209 e210
          rw [← e210] at hM
          refine lv_aload_n hx hb d_Y_ask_157 rfl (hl.at 2 rfl) ?_
          have t211 : zT M209 a0 = some (9, 40) := by rw [e210]; exact t203
          refine z_getR hx hb hW in_9 hown hK hM t211 (by decide) rfl 12 (by decide) rfl (hW _ k_597) rfl d_Y_ask_158 ?_
          refine lv_iload hx hb d_Y_ask_161 (hl.at 1 rfl) ?_
          refine lv_iload hx hb d_Y_ask_163 (hl.at 0 rfl) ?_
          refine lv_if_eq (tgt := 177) hx hb d_Y_ask_165 rfl (fun c212 => ?_) (fun c212 => ?_)
          · replace h := h.1 c212
            refine lv_iconst (v := (0 : Int32)) hx hb d_Y_ask_177 (by decide) ?_
            exact b_178 M209 H locs ls a0 x1 x2 x3 x4 (zI M a0 6) (1 : Int32) (zR M209 a0 12) (zI M a0 6) (0 : Int32) (hl.sub [2, 3, 4, 5, 6, 1, 0] rfl) hM hS h
          · replace h := h.2 c212
            refine lv_aload_n hx hb d_Y_ask_168 rfl (hl.at 2 rfl) ?_
            refine z_getR hx hb hW in_9 hown hK hM t211 (by decide) rfl 22 (by decide) rfl (hW _ k_607) rfl d_Y_ask_169 ?_
            refine lv_iload_n hx hb d_Y_ask_172 rfl (hl.at 3 rfl) ?_
            obtain ⟨b213, hb214, h⟩ := h
            rw [hb214]
            obtain ⟨n216, t215, h⟩ := h
            obtain ⟨i217, h⟩ := h
            refine z_iald hx hb hK hM t215 0 rfl i217 d_Y_ask_173 ?_
            refine lv_goto (tgt := 178) hx hb d_Y_ask_174 rfl ?_
            exact b_178 M209 H locs ls a0 x1 x2 x3 x4 (zI M a0 6) (1 : Int32) (zR M209 a0 12) (zI M a0 6) (zI M209 b213 x1.toNatClampNeg) (hl.sub [2, 3, 4, 5, 6, 1, 0] rfl) hM hS h
        · replace h := h.2 c195
          refine lv_aload_n hx hb d_Y_ask_126 rfl (hl.at 2 rfl) ?_
          refine z_getR hx hb hW in_9 hown hK hM t36 (by decide) rfl 9 (by decide) rfl (hW _ k_594) rfl d_Y_ask_127 ?_
          refine lv_iload hx hb d_Y_ask_130 (hl.at 1 rfl) ?_
          refine lv_bipush (v := (7 : Int32)) hx hb d_Y_ask_132 (by decide) ?_
          obtain ⟨b218, hb219, h⟩ := h
          rw [hb219]
          obtain ⟨n221, t220, h⟩ := h
          obtain ⟨i222, h⟩ := h
          refine z_iast hx hb hK hM hS t220 0 rfl i222 d_Y_ask_134 (fun H locs hM hS => ?_)
          obtain ⟨M223, e224⟩ : ∃ z, z = zwI M34 b218 (zI M a0 6).toNatClampNeg (7 : Int32) := ⟨_, rfl⟩
          replace h := h M223 e224
          rw [← e224] at hM
          refine lv_goto (tgt := 201) hx hb d_Y_ask_135 rfl ?_
          refine lv_iload hx hb d_Y_ask_201 (hl.at 1 rfl) ?_
          rw [← hQ]
          exact z_iret hx hb hr hlk hK hM hS h d_Y_ask_203
      · replace h := h.1 c194
        refine lv_iload hx hb d_Y_ask_69 (hl.at 0 rfl) ?_
        refine lv_if_eq (tgt := 119) hx hb d_Y_ask_71 rfl (fun c225 => ?_) (fun c225 => ?_)
        · replace h := h.1 c225
          refine lv_aload_n hx hb d_Y_ask_119 rfl (hl.at 2 rfl) ?_
          refine z_getI hx hb hW in_9 hown hK hM t36 (by decide) rfl 37 (by decide) rfl (hW _ k_622) rfl d_Y_ask_120 ?_
          refine lv_if_eq (tgt := 138) hx hb d_Y_ask_123 rfl (fun c226 => ?_) (fun c226 => ?_)
          · replace h := h.1 c226
            refine lv_aload_n hx hb d_Y_ask_138 rfl (hl.at 2 rfl) ?_
            refine z_getR hx hb hW in_9 hown hK hM t36 (by decide) rfl 15 (by decide) rfl (hW _ k_600) rfl d_Y_ask_139 ?_
            refine lv_iload hx hb d_Y_ask_142 (hl.at 1 rfl) ?_
            refine lv_iconst (v := (1 : Int32)) hx hb d_Y_ask_144 (by decide) ?_
            obtain ⟨b227, hb228, h⟩ := h
            rw [hb228]
            obtain ⟨n230, t229, h⟩ := h
            obtain ⟨i231, h⟩ := h
            refine z_iast hx hb hK hM hS t229 0 rfl i231 d_Y_ask_145 (fun H locs hM hS => ?_)
            obtain ⟨M232, e233⟩ : ∃ z, z = zwI M34 b227 (zI M a0 6).toNatClampNeg (1 : Int32) := ⟨_, rfl⟩
            replace h := h M232 e233
            rw [← e233] at hM
            refine lv_aload_n hx hb d_Y_ask_146 rfl (hl.at 2 rfl) ?_
            have t234 : zT M232 a0 = some (9, 40) := by rw [e233]; exact t36
            refine z_getR hx hb hW in_9 hown hK hM t234 (by decide) rfl 13 (by decide) rfl (hW _ k_598) rfl d_Y_ask_147 ?_
            refine lv_iload hx hb d_Y_ask_150 (hl.at 1 rfl) ?_
            refine lv_aload_n hx hb d_Y_ask_152 rfl (hl.at 2 rfl) ?_
            refine z_getI hx hb hW in_9 hown hK hM t234 (by decide) rfl 5 (by decide) rfl (hW _ k_590) rfl d_Y_ask_153 ?_
            obtain ⟨b235, hb236, h⟩ := h
            rw [hb236]
            obtain ⟨n238, t237, h⟩ := h
            obtain ⟨i239, h⟩ := h
            refine z_iast hx hb hK hM hS t237 0 rfl i239 d_Y_ask_156 (fun H locs hM hS => ?_)
            obtain ⟨M240, e241⟩ : ∃ z, z = zwI M232 b235 (zI M a0 6).toNatClampNeg (zI M232 a0 5) := ⟨_, rfl⟩
            replace h := h M240 e241
            rw [← e241] at hM
            refine lv_aload_n hx hb d_Y_ask_157 rfl (hl.at 2 rfl) ?_
            have t242 : zT M240 a0 = some (9, 40) := by rw [e241]; exact t234
            refine z_getR hx hb hW in_9 hown hK hM t242 (by decide) rfl 12 (by decide) rfl (hW _ k_597) rfl d_Y_ask_158 ?_
            refine lv_iload hx hb d_Y_ask_161 (hl.at 1 rfl) ?_
            refine lv_iload hx hb d_Y_ask_163 (hl.at 0 rfl) ?_
            refine lv_if_eq (tgt := 177) hx hb d_Y_ask_165 rfl (fun c243 => ?_) (fun c243 => ?_)
            · replace h := h.1 c243
              refine lv_iconst (v := (0 : Int32)) hx hb d_Y_ask_177 (by decide) ?_
              exact b_178 M240 H locs ls a0 x1 x2 x3 x4 (zI M a0 6) (1 : Int32) (zR M240 a0 12) (zI M a0 6) (0 : Int32) (hl.sub [2, 3, 4, 5, 6, 1, 0] rfl) hM hS h
            · replace h := h.2 c243
              refine lv_aload_n hx hb d_Y_ask_168 rfl (hl.at 2 rfl) ?_
              refine z_getR hx hb hW in_9 hown hK hM t242 (by decide) rfl 22 (by decide) rfl (hW _ k_607) rfl d_Y_ask_169 ?_
              refine lv_iload_n hx hb d_Y_ask_172 rfl (hl.at 3 rfl) ?_
              obtain ⟨b244, hb245, h⟩ := h
              rw [hb245]
              obtain ⟨n247, t246, h⟩ := h
              obtain ⟨i248, h⟩ := h
              refine z_iald hx hb hK hM t246 0 rfl i248 d_Y_ask_173 ?_
              refine lv_goto (tgt := 178) hx hb d_Y_ask_174 rfl ?_
              exact b_178 M240 H locs ls a0 x1 x2 x3 x4 (zI M a0 6) (1 : Int32) (zR M240 a0 12) (zI M a0 6) (zI M240 b244 x1.toNatClampNeg) (hl.sub [2, 3, 4, 5, 6, 1, 0] rfl) hM hS h
          · replace h := h.2 c226
            refine lv_aload_n hx hb d_Y_ask_126 rfl (hl.at 2 rfl) ?_
            refine z_getR hx hb hW in_9 hown hK hM t36 (by decide) rfl 9 (by decide) rfl (hW _ k_594) rfl d_Y_ask_127 ?_
            refine lv_iload hx hb d_Y_ask_130 (hl.at 1 rfl) ?_
            refine lv_bipush (v := (7 : Int32)) hx hb d_Y_ask_132 (by decide) ?_
            obtain ⟨b249, hb250, h⟩ := h
            rw [hb250]
            obtain ⟨n252, t251, h⟩ := h
            obtain ⟨i253, h⟩ := h
            refine z_iast hx hb hK hM hS t251 0 rfl i253 d_Y_ask_134 (fun H locs hM hS => ?_)
            obtain ⟨M254, e255⟩ : ∃ z, z = zwI M34 b249 (zI M a0 6).toNatClampNeg (7 : Int32) := ⟨_, rfl⟩
            replace h := h M254 e255
            rw [← e255] at hM
            refine lv_goto (tgt := 201) hx hb d_Y_ask_135 rfl ?_
            refine lv_iload hx hb d_Y_ask_201 (hl.at 1 rfl) ?_
            rw [← hQ]
            exact z_iret hx hb hr hlk hK hM hS h d_Y_ask_203
        · replace h := h.2 c225
          refine lv_aload_n hx hb d_Y_ask_74 rfl (hl.at 2 rfl) ?_
          refine z_getI hx hb hW in_9 hown hK hM t36 (by decide) rfl 5 (by decide) rfl (hW _ k_590) rfl d_Y_ask_75 ?_
          refine lv_aload_n hx hb d_Y_ask_78 rfl (hl.at 2 rfl) ?_
          refine z_getR hx hb hW in_9 hown hK hM t36 (by decide) rfl 25 (by decide) rfl (hW _ k_610) rfl d_Y_ask_79 ?_
          refine lv_iload_n hx hb d_Y_ask_82 rfl (hl.at 3 rfl) ?_
          obtain ⟨b256, hb257, h⟩ := h
          rw [hb257]
          obtain ⟨n259, t258, h⟩ := h
          obtain ⟨i260, h⟩ := h
          refine z_iald hx hb hK hM t258 0 rfl i260 d_Y_ask_83 ?_
          refine lv_isub hx hb d_Y_ask_84 ?_
          refine lv_aload_n hx hb d_Y_ask_85 rfl (hl.at 2 rfl) ?_
          refine z_getR hx hb hW in_9 hown hK hM t36 (by decide) rfl 24 (by decide) rfl (hW _ k_609) rfl d_Y_ask_86 ?_
          refine lv_iload_n hx hb d_Y_ask_89 rfl (hl.at 3 rfl) ?_
          obtain ⟨b261, hb262, h⟩ := h
          rw [hb262]
          obtain ⟨n264, t263, h⟩ := h
          obtain ⟨i265, h⟩ := h
          refine z_iald hx hb hK hM t263 0 rfl i265 d_Y_ask_90 ?_
          refine lv_icmp_ge (tgt := 119) hx hb d_Y_ask_91 rfl (fun c266 => ?_) (fun c266 => ?_)
          · replace h := h.1 c266
            refine lv_aload_n hx hb d_Y_ask_119 rfl (hl.at 2 rfl) ?_
            refine z_getI hx hb hW in_9 hown hK hM t36 (by decide) rfl 37 (by decide) rfl (hW _ k_622) rfl d_Y_ask_120 ?_
            refine lv_if_eq (tgt := 138) hx hb d_Y_ask_123 rfl (fun c267 => ?_) (fun c267 => ?_)
            · replace h := h.1 c267
              refine lv_aload_n hx hb d_Y_ask_138 rfl (hl.at 2 rfl) ?_
              refine z_getR hx hb hW in_9 hown hK hM t36 (by decide) rfl 15 (by decide) rfl (hW _ k_600) rfl d_Y_ask_139 ?_
              refine lv_iload hx hb d_Y_ask_142 (hl.at 1 rfl) ?_
              refine lv_iconst (v := (1 : Int32)) hx hb d_Y_ask_144 (by decide) ?_
              obtain ⟨b268, hb269, h⟩ := h
              rw [hb269]
              obtain ⟨n271, t270, h⟩ := h
              obtain ⟨i272, h⟩ := h
              refine z_iast hx hb hK hM hS t270 0 rfl i272 d_Y_ask_145 (fun H locs hM hS => ?_)
              obtain ⟨M273, e274⟩ : ∃ z, z = zwI M34 b268 (zI M a0 6).toNatClampNeg (1 : Int32) := ⟨_, rfl⟩
              replace h := h M273 e274
              rw [← e274] at hM
              refine lv_aload_n hx hb d_Y_ask_146 rfl (hl.at 2 rfl) ?_
              have t275 : zT M273 a0 = some (9, 40) := by rw [e274]; exact t36
              refine z_getR hx hb hW in_9 hown hK hM t275 (by decide) rfl 13 (by decide) rfl (hW _ k_598) rfl d_Y_ask_147 ?_
              refine lv_iload hx hb d_Y_ask_150 (hl.at 1 rfl) ?_
              refine lv_aload_n hx hb d_Y_ask_152 rfl (hl.at 2 rfl) ?_
              refine z_getI hx hb hW in_9 hown hK hM t275 (by decide) rfl 5 (by decide) rfl (hW _ k_590) rfl d_Y_ask_153 ?_
              obtain ⟨b276, hb277, h⟩ := h
              rw [hb277]
              obtain ⟨n279, t278, h⟩ := h
              obtain ⟨i280, h⟩ := h
              refine z_iast hx hb hK hM hS t278 0 rfl i280 d_Y_ask_156 (fun H locs hM hS => ?_)
              obtain ⟨M281, e282⟩ : ∃ z, z = zwI M273 b276 (zI M a0 6).toNatClampNeg (zI M273 a0 5) := ⟨_, rfl⟩
              replace h := h M281 e282
              rw [← e282] at hM
              refine lv_aload_n hx hb d_Y_ask_157 rfl (hl.at 2 rfl) ?_
              have t283 : zT M281 a0 = some (9, 40) := by rw [e282]; exact t275
              refine z_getR hx hb hW in_9 hown hK hM t283 (by decide) rfl 12 (by decide) rfl (hW _ k_597) rfl d_Y_ask_158 ?_
              refine lv_iload hx hb d_Y_ask_161 (hl.at 1 rfl) ?_
              refine lv_iload hx hb d_Y_ask_163 (hl.at 0 rfl) ?_
              refine lv_if_eq (tgt := 177) hx hb d_Y_ask_165 rfl (fun c284 => ?_) (fun c284 => ?_)
              · replace h := h.1 c284
                refine lv_iconst (v := (0 : Int32)) hx hb d_Y_ask_177 (by decide) ?_
                exact b_178 M281 H locs ls a0 x1 x2 x3 x4 (zI M a0 6) (1 : Int32) (zR M281 a0 12) (zI M a0 6) (0 : Int32) (hl.sub [2, 3, 4, 5, 6, 1, 0] rfl) hM hS h
              · replace h := h.2 c284
                refine lv_aload_n hx hb d_Y_ask_168 rfl (hl.at 2 rfl) ?_
                refine z_getR hx hb hW in_9 hown hK hM t283 (by decide) rfl 22 (by decide) rfl (hW _ k_607) rfl d_Y_ask_169 ?_
                refine lv_iload_n hx hb d_Y_ask_172 rfl (hl.at 3 rfl) ?_
                obtain ⟨b285, hb286, h⟩ := h
                rw [hb286]
                obtain ⟨n288, t287, h⟩ := h
                obtain ⟨i289, h⟩ := h
                refine z_iald hx hb hK hM t287 0 rfl i289 d_Y_ask_173 ?_
                refine lv_goto (tgt := 178) hx hb d_Y_ask_174 rfl ?_
                exact b_178 M281 H locs ls a0 x1 x2 x3 x4 (zI M a0 6) (1 : Int32) (zR M281 a0 12) (zI M a0 6) (zI M281 b285 x1.toNatClampNeg) (hl.sub [2, 3, 4, 5, 6, 1, 0] rfl) hM hS h
            · replace h := h.2 c267
              refine lv_aload_n hx hb d_Y_ask_126 rfl (hl.at 2 rfl) ?_
              refine z_getR hx hb hW in_9 hown hK hM t36 (by decide) rfl 9 (by decide) rfl (hW _ k_594) rfl d_Y_ask_127 ?_
              refine lv_iload hx hb d_Y_ask_130 (hl.at 1 rfl) ?_
              refine lv_bipush (v := (7 : Int32)) hx hb d_Y_ask_132 (by decide) ?_
              obtain ⟨b290, hb291, h⟩ := h
              rw [hb291]
              obtain ⟨n293, t292, h⟩ := h
              obtain ⟨i294, h⟩ := h
              refine z_iast hx hb hK hM hS t292 0 rfl i294 d_Y_ask_134 (fun H locs hM hS => ?_)
              obtain ⟨M295, e296⟩ : ∃ z, z = zwI M34 b290 (zI M a0 6).toNatClampNeg (7 : Int32) := ⟨_, rfl⟩
              replace h := h M295 e296
              rw [← e296] at hM
              refine lv_goto (tgt := 201) hx hb d_Y_ask_135 rfl ?_
              refine lv_iload hx hb d_Y_ask_201 (hl.at 1 rfl) ?_
              rw [← hQ]
              exact z_iret hx hb hr hlk hK hM hS h d_Y_ask_203
          · replace h := h.2 c266
            refine lv_aload_n hx hb d_Y_ask_94 rfl (hl.at 2 rfl) ?_
            refine z_getR hx hb hW in_9 hown hK hM t36 (by decide) rfl 9 (by decide) rfl (hW _ k_594) rfl d_Y_ask_95 ?_
            refine lv_iload hx hb d_Y_ask_98 (hl.at 1 rfl) ?_
            refine lv_bipush (v := (8 : Int32)) hx hb d_Y_ask_100 (by decide) ?_
            obtain ⟨b297, hb298, h⟩ := h
            rw [hb298]
            obtain ⟨n300, t299, h⟩ := h
            obtain ⟨i301, h⟩ := h
            refine z_iast hx hb hK hM hS t299 0 rfl i301 d_Y_ask_102 (fun H locs hM hS => ?_)
            obtain ⟨M302, e303⟩ : ∃ z, z = zwI M34 b297 (zI M a0 6).toNatClampNeg (8 : Int32) := ⟨_, rfl⟩
            replace h := h M302 e303
            rw [← e303] at hM
            refine lv_aload_n hx hb d_Y_ask_103 rfl (hl.at 2 rfl) ?_
            have t304 : zT M302 a0 = some (9, 40) := by rw [e303]; exact t36
            refine z_getR hx hb hW in_9 hown hK hM t304 (by decide) rfl 14 (by decide) rfl (hW _ k_599) rfl d_Y_ask_104 ?_
            refine lv_iload hx hb d_Y_ask_107 (hl.at 1 rfl) ?_
            refine lv_aload_n hx hb d_Y_ask_109 rfl (hl.at 2 rfl) ?_
            refine z_getR hx hb hW in_9 hown hK hM t304 (by decide) rfl 23 (by decide) rfl (hW _ k_608) rfl d_Y_ask_110 ?_
            refine lv_iload_n hx hb d_Y_ask_113 rfl (hl.at 3 rfl) ?_
            obtain ⟨b305, hb306, h⟩ := h
            rw [hb306]
            obtain ⟨n308, t307, h⟩ := h
            obtain ⟨i309, h⟩ := h
            refine z_iald hx hb hK hM t307 0 rfl i309 d_Y_ask_114 ?_
            obtain ⟨b310, hb311, h⟩ := h
            rw [hb311]
            obtain ⟨n313, t312, h⟩ := h
            obtain ⟨i314, h⟩ := h
            refine z_iast hx hb hK hM hS t312 0 rfl i314 d_Y_ask_115 (fun H locs hM hS => ?_)
            obtain ⟨M315, e316⟩ : ∃ z, z = zwI M302 b310 (zI M a0 6).toNatClampNeg (zI M302 b305 x1.toNatClampNeg) := ⟨_, rfl⟩
            replace h := h M315 e316
            rw [← e316] at hM
            refine lv_goto (tgt := 201) hx hb d_Y_ask_116 rfl ?_
            refine lv_iload hx hb d_Y_ask_201 (hl.at 1 rfl) ?_
            rw [← hQ]
            exact z_iret hx hb hr hlk hK hM hS h d_Y_ask_203
  exact b_start M s.heap [] ls a0 x1 x2 x3 x4 hl hM hS h
