set_option maxHeartbeats 4000000 in
set_option maxRecDepth 100000 in
theorem c_A_init (l : Launch) (ca : Nat → ClassId) (D : va_G) (M : zM) (sz : Nat) (a0 : Nat) (x1 : Int32) (post : zM → Prop) : Met l y_A_init (Cond.code y_A_init prog_2_method_1_code 2 none :: zws) rm_A_init (zPre ca D zcl (ztys ca) [.ref a0, .int x1] M sz (w_A_init M a0 x1 post)) (va_Qv post (zB ca D zcl (ztys ca) (zA M sz)) (zA M sz)) 1 3 (zA M sz) := by
  refine z_met (cc := prog_2_method_1_code) (maxL := 2) (ret := none) (plainFor_of_name (by decide)) rfl (by simp [Value.category]) (Nat.le_of_ble_eq_true rfl) ?_
  intro p e s m args below meth c ls A hx hb hr hlk hml hts hown hnm hK hN hl hA0 hM hS hA h
  rw [← hA0]
  have hW : ∀ w ∈ zws, w.before args s = true := fun w hw => hts w (List.mem_cons_of_mem _ hw)
  have hl : zL ls 2 [(0, .ref a0), (1, .int x1)] := hl
  generalize hQ : MQ below (va_Qv post (zB ca D zcl (ztys ca) A) A) args s 1 3 A = Q
  have b_start : ∀ (M : zM) (H : Heap) (locs : List Loc) (ls : Array Slot) (a0 : Nat) (x1 : Int32), zL ls 2 [(0, .ref a0), (1, .int x1)] → zW ca D zcl A M H → va_S A s.heap H locs → w_A_init M a0 x1 post → W p l e rm_A_init s m args below meth c H locs 0 0 Q (F0 m 0 ls []) := by
    intro M H locs ls a0 x1 hl hM hS h
    unfold w_A_init at h
    refine lv_aload_n hx hb d_A_init_0 rfl (hl.at 0 rfl) ?_
    refine W.objInit hx hb hown (hW _ k_333) (hW _ k_18) (hW _ k_19) rfl (by rw [hml]; exact hl.1.1) rfl d_A_init_1 (Nat.le_of_ble_eq_true rfl) (Nat.le_of_ble_eq_true rfl) ?_
    refine W.eq (g2 := F0 m 4 ls []) rfl ?_
    refine lv_aload_n hx hb d_A_init_4 rfl (hl.at 0 rfl) ?_
    refine lv_iload_n hx hb d_A_init_5 rfl (hl.at 1 rfl) ?_
    obtain ⟨t1, h⟩ := h
    refine z_putI hx hb hW in_0 ty_0 tyok_0 nm_0 hown hK hM hS t1 (by decide) rfl 0 (by decide) rfl (hW _ k_334) rfl (Or.inr ⟨rfl, hnm, rfl⟩) rfl rfl d_A_init_6 (fun H locs hM hS => ?_)
    obtain ⟨M2, e3⟩ : ∃ z, z = zwI M a0 0 x1 := ⟨_, rfl⟩
    replace h := h M2 e3
    rw [← e3] at hM
    refine lv_aload_n hx hb d_A_init_9 rfl (hl.at 0 rfl) ?_
    refine lv_iconst (v := (3 : Int32)) hx hb d_A_init_10 (by decide) ?_
    refine z_newP (atype := .int) hx hb (hW _ k_85) rfl hK hM hS hA (by decide) 0 rfl (by decide) (N' := 3) (by decide) (by decide) (by decide) (by decide) d_A_init_11 (fun q4 H hq5 hM hS => ?_)
    replace h := h q4 hq5
    obtain ⟨M6, e7⟩ : ∃ z, z = znw M2 q4 (20, 3) := ⟨_, rfl⟩
    replace h := h M6 e7
    rw [← e7] at hM
    have t8 : zT M6 q4 = some (20, 3) := by rw [e7, zT_nw, if_pos rfl]
    obtain ⟨t9, h⟩ := h
    refine z_putR (v := some q4) hx hb hW in_0 ty_0 tyok_0 nm_0 hown hK hM hS t9 (by decide) rfl 1 (by decide) rfl (hW _ k_337) rfl (Or.inr ⟨rfl, hnm, rfl⟩) rfl rfl d_A_init_13 (fun H locs hM hS => ?_)
    obtain ⟨M10, e11⟩ : ∃ z, z = zwR M6 a0 1 (some q4) := ⟨_, rfl⟩
    replace h := h M10 e11
    rw [← e11] at hM
    refine lv_aload_n hx hb d_A_init_16 rfl (hl.at 0 rfl) ?_
    refine lv_iconst (v := (1 : Int32)) hx hb d_A_init_17 (by decide) ?_
    have t12 : zT M10 a0 = some (0, 10) := by rw [e11]; exact t9
    refine z_putI hx hb hW in_0 ty_0 tyok_0 nm_0 hown hK hM hS t12 (by decide) rfl 7 (by decide) rfl (hW _ k_350) rfl (Or.inl rfl) rfl rfl d_A_init_18 (fun H locs hM hS => ?_)
    obtain ⟨M13, e14⟩ : ∃ z, z = zwI M10 a0 7 (1 : Int32) := ⟨_, rfl⟩
    replace h := h M13 e14
    rw [← e14] at hM
    rw [← hQ]
    exact z_vret hx hb hr hlk hK hM hS h d_A_init_21
  exact b_start M s.heap [] ls a0 x1 hl hM hS h
set_option maxHeartbeats 4000000 in
set_option maxRecDepth 100000 in
theorem c_A_addReference (l : Launch) (ca : Nat → ClassId) (D : va_G) (M : zM) (sz : Nat) (a0 : Nat) (x1 : Int32) (post : zM → Prop) : Met l y_A_addReference (Cond.code y_A_addReference prog_2_method_2_code 2 none :: zws) rm_A_addReference (zPre ca D zcl (ztys ca) [.ref a0, .int x1] M sz (w_A_addReference M a0 x1 post)) (va_Qv post (zB ca D zcl (ztys ca) (zA M sz)) (zA M sz)) 0 0 (zA M sz) := by
  refine z_met (cc := prog_2_method_2_code) (maxL := 2) (ret := none) (plainFor_of_name (by decide)) rfl (by simp [Value.category]) (Nat.le_of_ble_eq_true rfl) ?_
  intro p e s m args below meth c ls A hx hb hr hlk hml hts hown hnm hK hN hl hA0 hM hS hA h
  rw [← hA0]
  have hW : ∀ w ∈ zws, w.before args s = true := fun w hw => hts w (List.mem_cons_of_mem _ hw)
  have hl : zL ls 2 [(0, .ref a0), (1, .int x1)] := hl
  generalize hQ : MQ below (va_Qv post (zB ca D zcl (ztys ca) A) A) args s 0 0 A = Q
  have b_start : ∀ (M : zM) (H : Heap) (locs : List Loc) (ls : Array Slot) (a0 : Nat) (x1 : Int32), zL ls 2 [(0, .ref a0), (1, .int x1)] → zW ca D zcl A M H → va_S A s.heap H locs → w_A_addReference M a0 x1 post → W p l e rm_A_addReference s m args below meth c H locs 0 0 Q (F0 m 0 ls []) := by
    intro M H locs ls a0 x1 hl hM hS h
    unfold w_A_addReference at h
    refine lv_aload_n hx hb d_A_addReference_0 rfl (hl.at 0 rfl) ?_
    obtain ⟨t1, h⟩ := h
    refine z_getI hx hb hW in_0 hown hK hM t1 (by decide) rfl 2 (by decide) rfl (hW _ k_338) rfl d_A_addReference_1 ?_
    refine lv_aload_n hx hb d_A_addReference_4 rfl (hl.at 0 rfl) ?_
    refine z_getR hx hb hW in_0 hown hK hM t1 (by decide) rfl 1 (by decide) rfl (hW _ k_337) rfl d_A_addReference_5 ?_
    obtain ⟨b2, hb3, h⟩ := h
    rw [hb3]
    obtain ⟨n5, t4, h⟩ := h
    refine z_alen hx hb hK hM t4 (by decide) 0 rfl d_A_addReference_8 ?_
    refine lv_icmp_lt (tgt := 13) hx hb d_A_addReference_9 rfl (fun c6 => ?_) (fun c6 => ?_)
    · replace h := h.1 c6
      refine lv_aload_n hx hb d_A_addReference_13 rfl (hl.at 0 rfl) ?_
      refine z_getR hx hb hW in_0 hown hK hM t1 (by decide) rfl 1 (by decide) rfl (hW _ k_337) rfl d_A_addReference_14 ?_
      refine lv_aload_n hx hb d_A_addReference_17 rfl (hl.at 0 rfl) ?_
      refine z_getI hx hb hW in_0 hown hK hM t1 (by decide) rfl 2 (by decide) rfl (hW _ k_338) rfl d_A_addReference_18 ?_
      refine lv_iload_n hx hb d_A_addReference_21 rfl (hl.at 1 rfl) ?_
      obtain ⟨b7, hb8, h⟩ := h
      rw [hb8]
      obtain ⟨n10, t9, h⟩ := h
      obtain ⟨i11, h⟩ := h
      refine z_iast hx hb hK hM hS t9 0 rfl i11 d_A_addReference_22 (fun H locs hM hS => ?_)
      obtain ⟨M12, e13⟩ : ∃ z, z = zwI M b7 (zI M a0 2).toNatClampNeg x1 := ⟨_, rfl⟩
      replace h := h M12 e13
      rw [← e13] at hM
      refine lv_aload_n hx hb d_A_addReference_23 rfl (hl.at 0 rfl) ?_
      refine lv_dup hx hb d_A_addReference_24 rfl ?_
      have t14 : zT M12 a0 = some (0, 10) := by rw [e13]; exact t1
      refine z_getI hx hb hW in_0 hown hK hM t14 (by decide) rfl 2 (by decide) rfl (hW _ k_338) rfl d_A_addReference_25 ?_
      refine lv_iconst (v := (1 : Int32)) hx hb d_A_addReference_28 (by decide) ?_
      refine lv_iadd hx hb d_A_addReference_29 ?_
      refine z_putI hx hb hW in_0 ty_0 tyok_0 nm_0 hown hK hM hS t14 (by decide) rfl 2 (by decide) rfl (hW _ k_338) rfl (Or.inl rfl) rfl rfl d_A_addReference_30 (fun H locs hM hS => ?_)
      obtain ⟨M15, e16⟩ : ∃ z, z = zwI M12 a0 2 ((zI M12 a0 2) + (1 : Int32)) := ⟨_, rfl⟩
      replace h := h M15 e16
      rw [← e16] at hM
      refine lv_aload_n hx hb d_A_addReference_33 rfl (hl.at 0 rfl) ?_
      refine lv_aload_n hx hb d_A_addReference_34 rfl (hl.at 0 rfl) ?_
      have t17 : zT M15 a0 = some (0, 10) := by rw [e16]; exact t14
      refine z_getI hx hb hW in_0 hown hK hM t17 (by decide) rfl 3 (by decide) rfl (hW _ k_340) rfl d_A_addReference_35 ?_
      refine lv_iload_n hx hb d_A_addReference_38 rfl (hl.at 1 rfl) ?_
      refine lv_iconst (v := (1 : Int32)) hx hb d_A_addReference_39 (by decide) ?_
      refine lv_iadd hx hb d_A_addReference_40 ?_
      refine va_mmax hx hb (by rw [hml]; exact hl.1.1.symm) hown (hW _ k_419) (hW _ k_322) (hW _ k_10) (hW _ k_323) (Nat.le_of_ble_eq_true rfl) (Nat.le_of_ble_eq_true rfl) (by decide) (by decide) d_A_addReference_41 ?_
      refine z_putI hx hb hW in_0 ty_0 tyok_0 nm_0 hown hK hM hS t17 (by decide) rfl 3 (by decide) rfl (hW _ k_340) rfl (Or.inl rfl) rfl rfl d_A_addReference_44 (fun H locs hM hS => ?_)
      obtain ⟨M18, e19⟩ : ∃ z, z = zwI M15 a0 3 (if zI M15 a0 3 < x1 + (1 : Int32) then x1 + (1 : Int32) else zI M15 a0 3) := ⟨_, rfl⟩
      replace h := h M18 e19
      rw [← e19] at hM
      rw [← hQ]
      exact z_vret hx hb hr hlk hK hM hS h d_A_addReference_47
    · replace h := h.2 c6
      rw [← hQ]
      exact z_vret hx hb hr hlk hK hM hS h d_A_addReference_12
  exact b_start M s.heap [] ls a0 x1 hl hM hS h
set_option maxHeartbeats 4000000 in
set_option maxRecDepth 100000 in
theorem c_A_refersTo (l : Launch) (ca : Nat → ClassId) (D : va_G) (M : zM) (sz : Nat) (a0 : Nat) (x1 : Int32) (post : Int32 → zM → Prop) : Met l y_A_refersTo (Cond.code y_A_refersTo prog_2_method_3_code 3 (some .boolean) :: zws) rm_A_refersTo (zPre ca D zcl (ztys ca) [.ref a0, .int x1] M sz (w_A_refersTo M a0 x1 post)) (va_Qi post (zB ca D zcl (ztys ca) (zA M sz)) (zA M sz)) 0 0 (zA M sz) := by
  refine z_met (cc := prog_2_method_3_code) (maxL := 3) (ret := (some .boolean)) (plainFor_of_name (by decide)) rfl (by simp [Value.category]) (Nat.le_of_ble_eq_true rfl) ?_
  intro p e s m args below meth c ls A hx hb hr hlk hml hts hown hnm hK hN hl hA0 hM hS hA h
  rw [← hA0]
  have hW : ∀ w ∈ zws, w.before args s = true := fun w hw => hts w (List.mem_cons_of_mem _ hw)
  have hl : zL ls 3 [(0, .ref a0), (1, .int x1)] := hl
  generalize hQ : MQ below (va_Qi post (zB ca D zcl (ztys ca) A) A) args s 0 0 A = Q
  have b_2 : ∀ (n : Nat) (M : zM) (H : Heap) (locs : List Loc) (ls : Array Slot) (a0 : Nat) (x1 : Int32) (x2 : Int32), zL ls 3 [(0, .ref a0), (1, .int x1), (2, .int x2)] → zW ca D zcl A M H → va_S A s.heap H locs → w_A_refersTo_2 post n M a0 x1 x2 → W p l e rm_A_refersTo s m args below meth c H locs 0 0 Q (F0 m 2 ls []) := by
    intro n
    induction n with
    | zero =>
      intro M H locs ls a0 x1 x2 hl hM hS h
      exact False.elim h
    | succ n ih =>
      intro M H locs ls a0 x1 x2 hl hM hS h
      rw [w_A_refersTo_2] at h
      refine lv_iload_n hx hb d_A_refersTo_2 rfl (hl.at 2 rfl) ?_
      refine lv_aload_n hx hb d_A_refersTo_3 rfl (hl.at 0 rfl) ?_
      obtain ⟨t1, h⟩ := h
      refine z_getI hx hb hW in_0 hown hK hM t1 (by decide) rfl 2 (by decide) rfl (hW _ k_338) rfl d_A_refersTo_4 ?_
      refine lv_icmp_ge (tgt := 37) hx hb d_A_refersTo_7 rfl (fun c2 => ?_) (fun c2 => ?_)
      · replace h := h.1 c2
        refine lv_iconst (v := (0 : Int32)) hx hb d_A_refersTo_37 (by decide) ?_
        rw [← hQ]
        exact z_zret hx hb hr hlk rfl hK hM hS h d_A_refersTo_38
      · replace h := h.2 c2
        refine lv_iload_n hx hb d_A_refersTo_10 rfl (hl.at 2 rfl) ?_
        refine lv_aload_n hx hb d_A_refersTo_11 rfl (hl.at 0 rfl) ?_
        refine z_getR hx hb hW in_0 hown hK hM t1 (by decide) rfl 1 (by decide) rfl (hW _ k_337) rfl d_A_refersTo_12 ?_
        obtain ⟨b3, hb4, h⟩ := h
        rw [hb4]
        obtain ⟨n6, t5, h⟩ := h
        refine z_alen hx hb hK hM t5 (by decide) 0 rfl d_A_refersTo_15 ?_
        refine lv_icmp_ge (tgt := 37) hx hb d_A_refersTo_16 rfl (fun c7 => ?_) (fun c7 => ?_)
        · replace h := h.1 c7
          refine lv_iconst (v := (0 : Int32)) hx hb d_A_refersTo_37 (by decide) ?_
          rw [← hQ]
          exact z_zret hx hb hr hlk rfl hK hM hS h d_A_refersTo_38
        · replace h := h.2 c7
          refine lv_aload_n hx hb d_A_refersTo_19 rfl (hl.at 0 rfl) ?_
          refine z_getR hx hb hW in_0 hown hK hM t1 (by decide) rfl 1 (by decide) rfl (hW _ k_337) rfl d_A_refersTo_20 ?_
          refine lv_iload_n hx hb d_A_refersTo_23 rfl (hl.at 2 rfl) ?_
          obtain ⟨b8, hb9, h⟩ := h
          rw [hb9]
          obtain ⟨n11, t10, h⟩ := h
          obtain ⟨i12, h⟩ := h
          refine z_iald hx hb hK hM t10 0 rfl i12 d_A_refersTo_24 ?_
          refine lv_iload_n hx hb d_A_refersTo_25 rfl (hl.at 1 rfl) ?_
          refine lv_icmp_ne (tgt := 31) hx hb d_A_refersTo_26 rfl (fun c13 => ?_) (fun c13 => ?_)
          · replace h := h.2 c13
            refine z_iinc (k := 2) (v := x2 + (1 : Int32)) hx hb d_A_refersTo_31 hl rfl rfl (by decide) rfl (fun ls hl => ?_)
            have hl : zL ls 3 [(2, .int (x2 + (1 : Int32))), (0, .ref a0), (1, .int x1)] := hl
            refine lv_goto (tgt := 2) hx hb d_A_refersTo_34 rfl ?_
            exact ih M H locs ls a0 x1 (x2 + (1 : Int32)) (hl.sub [1, 2, 0] rfl) hM hS h
          · replace h := h.1 c13
            refine lv_iconst (v := (1 : Int32)) hx hb d_A_refersTo_29 (by decide) ?_
            rw [← hQ]
            exact z_zret hx hb hr hlk rfl hK hM hS h d_A_refersTo_30
  have b_start : ∀ (M : zM) (H : Heap) (locs : List Loc) (ls : Array Slot) (a0 : Nat) (x1 : Int32), zL ls 3 [(0, .ref a0), (1, .int x1)] → zW ca D zcl A M H → va_S A s.heap H locs → w_A_refersTo M a0 x1 post → W p l e rm_A_refersTo s m args below meth c H locs 0 0 Q (F0 m 0 ls []) := by
    intro M H locs ls a0 x1 hl hM hS h
    unfold w_A_refersTo at h
    refine lv_iconst (v := (0 : Int32)) hx hb d_A_refersTo_0 (by decide) ?_
    refine z_istore_n hx hb d_A_refersTo_1 rfl hl (by decide) rfl (fun ls hl => ?_)
    have hl : zL ls 3 [(2, .int (0 : Int32)), (0, .ref a0), (1, .int x1)] := hl
    obtain ⟨n14, h⟩ := h
    exact b_2 n14 M H locs ls a0 x1 (0 : Int32) (hl.sub [1, 2, 0] rfl) hM hS h
  exact b_start M s.heap [] ls a0 x1 hl hM hS h
set_option maxHeartbeats 4000000 in
set_option maxRecDepth 100000 in
theorem c_K_init (l : Launch) (ca : Nat → ClassId) (D : va_G) (M : zM) (sz : Nat) (a0 : Nat) (post : zM → Prop) : Met l y_K_init (Cond.code y_K_init prog_8_method_1_code 1 none :: zws) rm_K_init (zPre ca D zcl (ztys ca) [.ref a0] M sz (w_K_init M a0 post)) (va_Qv post (zB ca D zcl (ztys ca) (zA M sz)) (zA M sz)) 0 0 (zA M sz) := by
  refine z_met (cc := prog_8_method_1_code) (maxL := 1) (ret := none) (plainFor_of_name (by decide)) rfl (by simp [Value.category]) (Nat.le_of_ble_eq_true rfl) ?_
  intro p e s m args below meth c ls A hx hb hr hlk hml hts hown hnm hK hN hl hA0 hM hS hA h
  rw [← hA0]
  have hW : ∀ w ∈ zws, w.before args s = true := fun w hw => hts w (List.mem_cons_of_mem _ hw)
  have hl : zL ls 1 [(0, .ref a0)] := hl
  generalize hQ : MQ below (va_Qv post (zB ca D zcl (ztys ca) A) A) args s 0 0 A = Q
  have b_start : ∀ (M : zM) (H : Heap) (locs : List Loc) (ls : Array Slot) (a0 : Nat), zL ls 1 [(0, .ref a0)] → zW ca D zcl A M H → va_S A s.heap H locs → w_K_init M a0 post → W p l e rm_K_init s m args below meth c H locs 0 0 Q (F0 m 0 ls []) := by
    intro M H locs ls a0 hl hM hS h
    unfold w_K_init at h
    refine lv_aload_n hx hb d_K_init_0 rfl (hl.at 0 rfl) ?_
    refine W.objInit hx hb hown (hW _ k_120) (hW _ k_18) (hW _ k_19) rfl (by rw [hml]; exact hl.1.1) rfl d_K_init_1 (Nat.le_of_ble_eq_true rfl) (Nat.le_of_ble_eq_true rfl) ?_
    refine W.eq (g2 := F0 m 4 ls []) rfl ?_
    rw [← hQ]
    exact z_vret hx hb hr hlk hK hM hS h d_K_init_4
  exact b_start M s.heap [] ls a0 hl hM hS h
set_option maxHeartbeats 4000000 in
set_option maxRecDepth 100000 in
theorem c_C_init (l : Launch) (ca : Nat → ClassId) (D : va_G) (M : zM) (sz : Nat) (a0 : Nat) (post : zM → Prop) : Met l y_C_init (Cond.code y_C_init prog_3_method_1_code 2 none :: zws) rm_C_init (zPre ca D zcl (ztys ca) [.ref a0] M sz (w_C_init M a0 post)) (va_Qv post (zB ca D zcl (ztys ca) (zA M sz)) (zA M sz)) 8 48 (zA M sz) := by
  refine z_met (cc := prog_3_method_1_code) (maxL := 2) (ret := none) (plainFor_of_name (by decide)) rfl (by simp [Value.category]) (Nat.le_of_ble_eq_true rfl) ?_
  intro p e s m args below meth c ls A hx hb hr hlk hml hts hown hnm hK hN hl hA0 hM hS hA h
  rw [← hA0]
  have hW : ∀ w ∈ zws, w.before args s = true := fun w hw => hts w (List.mem_cons_of_mem _ hw)
  have hl : zL ls 2 [(0, .ref a0)] := hl
  generalize hQ : MQ below (va_Qv post (zB ca D zcl (ztys ca) A) A) args s 8 48 A = Q
  have b_15 : ∀ (n : Nat) (M : zM) (H : Heap) (locs : List Loc) (ls : Array Slot) (cc ss : Nat) (a0 : Nat) (x1 : Int32), zL ls 2 [(0, .ref a0), (1, .int x1)] → zW ca D zcl A M H → va_S A s.heap H locs → cc + n * 1 ≤ 8 → ss + n * 6 ≤ 48 → w_C_init_15 post n M a0 x1 → W p l e rm_C_init s m args below meth c H locs cc ss Q (F0 m 15 ls []) := by
    intro n
    induction n with
    | zero =>
      intro M H locs ls cc ss a0 x1 hl hM hS k1 k2 h
      exact False.elim h
    | succ n ih =>
      intro M H locs ls cc ss a0 x1 hl hM hS k1 k2 h
      rw [w_C_init_15] at h
      refine lv_iload_n hx hb d_C_init_15 rfl (hl.at 1 rfl) ?_
      refine lv_aload_n hx hb d_C_init_16 rfl (hl.at 0 rfl) ?_
      obtain ⟨t9, h⟩ := h
      refine z_getR hx hb hW in_1 hown hK hM t9 (by decide) rfl 0 (by decide) rfl (hW _ k_148) rfl d_C_init_17 ?_
      obtain ⟨b10, hb11, h⟩ := h
      rw [hb11]
      obtain ⟨n13, t12, h⟩ := h
      refine z_alen hx hb hK hM t12 (by decide) 5 rfl d_C_init_20 ?_
      refine lv_icmp_ge (tgt := 43) hx hb d_C_init_21 rfl (fun c14 => ?_) (fun c14 => ?_)
      · replace h := h.1 c14
        refine W.widen (k := 8) (n := 48) (by omega) (by omega) ?_
        rw [← hQ]
        exact z_vret hx hb hr hlk hK hM hS h d_C_init_43
      · replace h := h.2 c14
        refine lv_aload_n hx hb d_C_init_24 rfl (hl.at 0 rfl) ?_
        refine z_getR hx hb hW in_1 hown hK hM t9 (by decide) rfl 0 (by decide) rfl (hW _ k_148) rfl d_C_init_25 ?_
        refine lv_iload_n hx hb d_C_init_28 rfl (hl.at 1 rfl) ?_
        refine z_new (ci := 6) hx hb hW in_6 ty_6 tyok_6 hown (hW _ k_114) (hW _ k_116) (hW _ k_6) hK hM hS hA (by decide) rfl df_6 (Nat.le_trans (m := 8) (by omega) (by decide)) (Nat.le_trans (m := 48) (by omega) (by decide)) d_C_init_29 (fun q15 H hq16 hM hS => ?_)
        replace h := h q15 hq16
        obtain ⟨M17, e18⟩ : ∃ z, z = znw M q15 (6, 6) := ⟨_, rfl⟩
        replace h := h M17 e18
        rw [← e18] at hM
        have t19 : zT M17 q15 = some (6, 6) := by rw [e18, zT_nw, if_pos rfl]
        refine lv_dup hx hb d_C_init_32 rfl ?_
        refine z_ctv (mc := 0) (ms := 0) (va_runIN (As := []) (rest := [.ref q15, .int x1, va_rf (zR M a0 0)]) ⟨hx, hb, hml, hown, hW⟩ (c_K_init l ca D M17 H.size q15 _) (cw_K_init hW (hN.2.1) ⟨by decide, by decide⟩) (zPre_S hK hN hM h) rfl rfl hl.1.1 rfl (lv_room (Nat.le_trans (zc_cons rfl (zc_cons rfl (zc_cons (z_cat _) (zc_nil)))) (by decide))) d_C_init_33 ⟨Nat.le_trans (m := 8) (by omega) (by decide), Nat.le_trans (m := 48) (by omega) (by decide)⟩) hM hS hA (fun M20 H locs h hM hS => ?_)
        obtain ⟨b21, hb22, h⟩ := h
        rw [hb22]
        obtain ⟨n24, t23, h⟩ := h
        obtain ⟨t25, h⟩ := h
        obtain ⟨i26, h⟩ := h
        refine z_aast hx hb hK hM hS t23 (by decide) 5 rfl t25 (by decide) rfl i26 d_C_init_36 (fun H locs hM hS => ?_)
        obtain ⟨M27, e28⟩ : ∃ z, z = zwR M20 b21 x1.toNatClampNeg (some q15) := ⟨_, rfl⟩
        replace h := h M27 e28
        rw [← e28] at hM
        refine z_iinc (k := 1) (v := x1 + (1 : Int32)) hx hb d_C_init_37 hl rfl rfl (by decide) rfl (fun ls hl => ?_)
        have hl : zL ls 2 [(1, .int (x1 + (1 : Int32))), (0, .ref a0)] := hl
        refine lv_goto (tgt := 15) hx hb d_C_init_40 rfl ?_
        exact ih M27 H locs ls _ _ a0 (x1 + (1 : Int32)) (hl.sub [1, 0] rfl) hM hS (by omega) (by omega) h
  have b_start : ∀ (M : zM) (H : Heap) (locs : List Loc) (ls : Array Slot) (a0 : Nat), zL ls 2 [(0, .ref a0)] → zW ca D zcl A M H → va_S A s.heap H locs → w_C_init M a0 post → W p l e rm_C_init s m args below meth c H locs 0 0 Q (F0 m 0 ls []) := by
    intro M H locs ls a0 hl hM hS h
    unfold w_C_init at h
    refine lv_aload_n hx hb d_C_init_0 rfl (hl.at 0 rfl) ?_
    refine W.objInit hx hb hown (hW _ k_113) (hW _ k_18) (hW _ k_19) rfl (by rw [hml]; exact hl.1.1) rfl d_C_init_1 (Nat.le_of_ble_eq_true rfl) (Nat.le_of_ble_eq_true rfl) ?_
    refine W.eq (g2 := F0 m 4 ls []) rfl ?_
    refine lv_aload_n hx hb d_C_init_4 rfl (hl.at 0 rfl) ?_
    refine lv_bipush (v := (6 : Int32)) hx hb d_C_init_5 (by decide) ?_
    refine z_newA hx hb hown (hW _ k_114) (hN.2.2.2.2.2) hK hM hS hA (kd := 25) (by decide) 5 rfl (by decide) (N' := 6) (by decide) (by decide) (by decide) (by decide) d_C_init_7 (fun q1 H hq2 hM hS => ?_)
    replace h := h q1 hq2
    obtain ⟨M3, e4⟩ : ∃ z, z = znw M q1 (25, 6) := ⟨_, rfl⟩
    replace h := h M3 e4
    rw [← e4] at hM
    have t5 : zT M3 q1 = some (25, 6) := by rw [e4, zT_nw, if_pos rfl]
    obtain ⟨t6, h⟩ := h
    refine z_putR (v := some q1) hx hb hW in_1 ty_1 tyok_1 nm_1 hown hK hM hS t6 (by decide) rfl 0 (by decide) rfl (hW _ k_148) rfl (Or.inr ⟨rfl, hnm, rfl⟩) rfl rfl d_C_init_10 (fun H locs hM hS => ?_)
    obtain ⟨M7, e8⟩ : ∃ z, z = zwR M3 a0 0 (some q1) := ⟨_, rfl⟩
    replace h := h M7 e8
    rw [← e8] at hM
    refine lv_iconst (v := (0 : Int32)) hx hb d_C_init_13 (by decide) ?_
    refine z_istore_n hx hb d_C_init_14 rfl hl (by decide) rfl (fun ls hl => ?_)
    have hl : zL ls 2 [(1, .int (0 : Int32)), (0, .ref a0)] := hl
    exact b_15 7 M7 H locs ls 1 6 a0 (0 : Int32) (hl.sub [1, 0] rfl) hM hS (by decide) (by decide) h
  exact b_start M s.heap [] ls a0 hl hM hS h
set_option maxHeartbeats 4000000 in
set_option maxRecDepth 100000 in
theorem c_C_storedAt (l : Launch) (ca : Nat → ClassId) (D : va_G) (M : zM) (sz : Nat) (a0 : Nat) (x1 : Int32) (post : Option Nat → zM → Prop) : Met l y_C_storedAt (Cond.code y_C_storedAt prog_3_method_2_code 2 (some (.object "TabledOrigin$StoredAnswer")) :: zws) rm_C_storedAt (zPre ca D zcl (ztys ca) [.ref a0, .int x1] M sz (w_C_storedAt M a0 x1 post)) (va_Qq post (zB ca D zcl (ztys ca) (zA M sz)) (zA M sz)) 0 0 (zA M sz) := by
  refine z_met (cc := prog_3_method_2_code) (maxL := 2) (ret := (some (.object "TabledOrigin$StoredAnswer"))) (plainFor_of_name (by decide)) rfl (by simp [Value.category]) (Nat.le_of_ble_eq_true rfl) ?_
  intro p e s m args below meth c ls A hx hb hr hlk hml hts hown hnm hK hN hl hA0 hM hS hA h
  rw [← hA0]
  have hW : ∀ w ∈ zws, w.before args s = true := fun w hw => hts w (List.mem_cons_of_mem _ hw)
  have hl : zL ls 2 [(0, .ref a0), (1, .int x1)] := hl
  generalize hQ : MQ below (va_Qq post (zB ca D zcl (ztys ca) A) A) args s 0 0 A = Q
  have b_start : ∀ (M : zM) (H : Heap) (locs : List Loc) (ls : Array Slot) (a0 : Nat) (x1 : Int32), zL ls 2 [(0, .ref a0), (1, .int x1)] → zW ca D zcl A M H → va_S A s.heap H locs → w_C_storedAt M a0 x1 post → W p l e rm_C_storedAt s m args below meth c H locs 0 0 Q (F0 m 0 ls []) := by
    intro M H locs ls a0 x1 hl hM hS h
    unfold w_C_storedAt at h
    refine lv_iload_n hx hb d_C_storedAt_0 rfl (hl.at 1 rfl) ?_
    refine lv_if_lt (tgt := 22) hx hb d_C_storedAt_1 rfl (fun c1 => ?_) (fun c1 => ?_)
    · replace h := h.1 c1
      refine lv_null hx hb d_C_storedAt_22 ?_
      rw [← hQ]
      exact z_aret (v := none) hx hb hr hlk hK hM hS h d_C_storedAt_23
    · replace h := h.2 c1
      refine lv_iload_n hx hb d_C_storedAt_4 rfl (hl.at 1 rfl) ?_
      refine lv_aload_n hx hb d_C_storedAt_5 rfl (hl.at 0 rfl) ?_
      obtain ⟨t2, h⟩ := h
      refine z_getR hx hb hW in_1 hown hK hM t2 (by decide) rfl 0 (by decide) rfl (hW _ k_148) rfl d_C_storedAt_6 ?_
      obtain ⟨b3, hb4, h⟩ := h
      rw [hb4]
      obtain ⟨n6, t5, h⟩ := h
      refine z_alen hx hb hK hM t5 (by decide) 5 rfl d_C_storedAt_9 ?_
      refine lv_icmp_ge (tgt := 22) hx hb d_C_storedAt_10 rfl (fun c7 => ?_) (fun c7 => ?_)
      · replace h := h.1 c7
        refine lv_null hx hb d_C_storedAt_22 ?_
        rw [← hQ]
        exact z_aret (v := none) hx hb hr hlk hK hM hS h d_C_storedAt_23
      · replace h := h.2 c7
        refine lv_aload_n hx hb d_C_storedAt_13 rfl (hl.at 0 rfl) ?_
        refine z_getR hx hb hW in_1 hown hK hM t2 (by decide) rfl 0 (by decide) rfl (hW _ k_148) rfl d_C_storedAt_14 ?_
        refine lv_iload_n hx hb d_C_storedAt_17 rfl (hl.at 1 rfl) ?_
        obtain ⟨b8, hb9, h⟩ := h
        rw [hb9]
        obtain ⟨n11, t10, h⟩ := h
        obtain ⟨i12, h⟩ := h
        refine z_aald hx hb hK hM t10 (by decide) 5 rfl i12 d_C_storedAt_18 ?_
        refine lv_goto (tgt := 23) hx hb d_C_storedAt_19 rfl ?_
        rw [← hQ]
        exact z_aret (v := zR M b8 x1.toNatClampNeg) hx hb hr hlk hK hM hS h d_C_storedAt_23
  exact b_start M s.heap [] ls a0 x1 hl hM hS h
set_option maxHeartbeats 4000000 in
set_option maxRecDepth 100000 in
theorem c_K_isFresh (l : Launch) (ca : Nat → ClassId) (D : va_G) (M : zM) (sz : Nat) (a0 : Nat) (x1 : Int32) (post : Int32 → zM → Prop) : Met l y_K_isFresh (Cond.code y_K_isFresh prog_8_method_2_code 2 (some .boolean) :: zws) rm_K_isFresh (zPre ca D zcl (ztys ca) [.ref a0, .int x1] M sz (w_K_isFresh M a0 x1 post)) (va_Qi post (zB ca D zcl (ztys ca) (zA M sz)) (zA M sz)) 0 0 (zA M sz) := by
  refine z_met (cc := prog_8_method_2_code) (maxL := 2) (ret := (some .boolean)) (plainFor_of_name (by decide)) rfl (by simp [Value.category]) (Nat.le_of_ble_eq_true rfl) ?_
  intro p e s m args below meth c ls A hx hb hr hlk hml hts hown hnm hK hN hl hA0 hM hS hA h
  rw [← hA0]
  have hW : ∀ w ∈ zws, w.before args s = true := fun w hw => hts w (List.mem_cons_of_mem _ hw)
  have hl : zL ls 2 [(0, .ref a0), (1, .int x1)] := hl
  generalize hQ : MQ below (va_Qi post (zB ca D zcl (ztys ca) A) A) args s 0 0 A = Q
  have b_start : ∀ (M : zM) (H : Heap) (locs : List Loc) (ls : Array Slot) (a0 : Nat) (x1 : Int32), zL ls 2 [(0, .ref a0), (1, .int x1)] → zW ca D zcl A M H → va_S A s.heap H locs → w_K_isFresh M a0 x1 post → W p l e rm_K_isFresh s m args below meth c H locs 0 0 Q (F0 m 0 ls []) := by
    intro M H locs ls a0 x1 hl hM hS h
    unfold w_K_isFresh at h
    refine lv_aload_n hx hb d_K_isFresh_0 rfl (hl.at 0 rfl) ?_
    obtain ⟨t1, h⟩ := h
    refine z_getI hx hb hW in_6 hown hK hM t1 (by decide) rfl 0 (by decide) rfl (hW _ k_121) rfl d_K_isFresh_1 ?_
    refine lv_if_eq (tgt := 24) hx hb d_K_isFresh_4 rfl (fun c2 => ?_) (fun c2 => ?_)
    · replace h := h.1 c2
      refine lv_iconst (v := (0 : Int32)) hx hb d_K_isFresh_24 (by decide) ?_
      rw [← hQ]
      exact z_zret hx hb hr hlk rfl hK hM hS h d_K_isFresh_25
    · replace h := h.2 c2
      refine lv_iload_n hx hb d_K_isFresh_7 rfl (hl.at 1 rfl) ?_
      refine lv_aload_n hx hb d_K_isFresh_8 rfl (hl.at 0 rfl) ?_
      refine z_getI hx hb hW in_6 hown hK hM t1 (by decide) rfl 4 (by decide) rfl (hW _ k_130) rfl d_K_isFresh_9 ?_
      refine lv_isub hx hb d_K_isFresh_12 ?_
      refine lv_aload_n hx hb d_K_isFresh_13 rfl (hl.at 0 rfl) ?_
      refine z_getI hx hb hW in_6 hown hK hM t1 (by decide) rfl 3 (by decide) rfl (hW _ k_128) rfl d_K_isFresh_14 ?_
      refine lv_icmp_ge (tgt := 24) hx hb d_K_isFresh_17 rfl (fun c3 => ?_) (fun c3 => ?_)
      · replace h := h.1 c3
        refine lv_iconst (v := (0 : Int32)) hx hb d_K_isFresh_24 (by decide) ?_
        rw [← hQ]
        exact z_zret hx hb hr hlk rfl hK hM hS h d_K_isFresh_25
      · replace h := h.2 c3
        refine lv_iconst (v := (1 : Int32)) hx hb d_K_isFresh_20 (by decide) ?_
        refine lv_goto (tgt := 25) hx hb d_K_isFresh_21 rfl ?_
        rw [← hQ]
        exact z_zret hx hb hr hlk rfl hK hM hS h d_K_isFresh_25
  exact b_start M s.heap [] ls a0 x1 hl hM hS h
set_option maxHeartbeats 4000000 in
set_option maxRecDepth 100000 in
theorem c_Q_settle (l : Launch) (ca : Nat → ClassId) (D : va_G) (M : zM) (sz : Nat) (a0 : Nat) (x1 : Int32) (x2 : Int32) (post : zM → Prop) : Met l y_Q_settle (Cond.code y_Q_settle prog_5_method_2_code 3 none :: zws) rm_Q_settle (zPre ca D zcl (ztys ca) [.ref a0, .int x1, .int x2] M sz (w_Q_settle M a0 x1 x2 post)) (va_Qv post (zB ca D zcl (ztys ca) (zA M sz)) (zA M sz)) 0 0 (zA M sz) := by
  refine z_met (cc := prog_5_method_2_code) (maxL := 3) (ret := none) (plainFor_of_name (by decide)) rfl (by simp [Value.category]) (Nat.le_of_ble_eq_true rfl) ?_
  intro p e s m args below meth c ls A hx hb hr hlk hml hts hown hnm hK hN hl hA0 hM hS hA h
  rw [← hA0]
  have hW : ∀ w ∈ zws, w.before args s = true := fun w hw => hts w (List.mem_cons_of_mem _ hw)
  have hl : zL ls 3 [(0, .ref a0), (1, .int x1), (2, .int x2)] := hl
  generalize hQ : MQ below (va_Qv post (zB ca D zcl (ztys ca) A) A) args s 0 0 A = Q
  have b_start : ∀ (M : zM) (H : Heap) (locs : List Loc) (ls : Array Slot) (a0 : Nat) (x1 : Int32) (x2 : Int32), zL ls 3 [(0, .ref a0), (1, .int x1), (2, .int x2)] → zW ca D zcl A M H → va_S A s.heap H locs → w_Q_settle M a0 x1 x2 post → W p l e rm_Q_settle s m args below meth c H locs 0 0 Q (F0 m 0 ls []) := by
    intro M H locs ls a0 x1 x2 hl hM hS h
    unfold w_Q_settle at h
    refine lv_aload_n hx hb d_Q_settle_0 rfl (hl.at 0 rfl) ?_
    refine lv_iload_n hx hb d_Q_settle_1 rfl (hl.at 1 rfl) ?_
    obtain ⟨t1, h⟩ := h
    refine z_putI hx hb hW in_3 ty_3 tyok_3 nm_3 hown hK hM hS t1 (by decide) rfl 9 (by decide) rfl (hW _ k_261) rfl (Or.inl rfl) rfl rfl d_Q_settle_2 (fun H locs hM hS => ?_)
    obtain ⟨M2, e3⟩ : ∃ z, z = zwI M a0 9 x1 := ⟨_, rfl⟩
    replace h := h M2 e3
    rw [← e3] at hM
    refine lv_aload_n hx hb d_Q_settle_5 rfl (hl.at 0 rfl) ?_
    refine lv_iload_n hx hb d_Q_settle_6 rfl (hl.at 2 rfl) ?_
    have t4 : zT M2 a0 = some (3, 12) := by rw [e3]; exact t1
    refine z_putI hx hb hW in_3 ty_3 tyok_3 nm_3 hown hK hM hS t4 (by decide) rfl 10 (by decide) rfl (hW _ k_263) rfl (Or.inl rfl) rfl rfl d_Q_settle_7 (fun H locs hM hS => ?_)
    obtain ⟨M5, e6⟩ : ∃ z, z = zwI M2 a0 10 x2 := ⟨_, rfl⟩
    replace h := h M5 e6
    rw [← e6] at hM
    rw [← hQ]
    exact z_vret hx hb hr hlk hK hM hS h d_Q_settle_10
  exact b_start M s.heap [] ls a0 x1 x2 hl hM hS h
set_option maxHeartbeats 4000000 in
set_option maxRecDepth 100000 in
theorem c_C_begin (l : Launch) (ca : Nat → ClassId) (D : va_G) (M : zM) (sz : Nat) (a0 : Nat) (a1 : Nat) (a2 : Nat) (x3 : Int32) (post : zM → Prop) : Met l y_C_begin (Cond.code y_C_begin prog_3_method_3_code 4 none :: zws) rm_C_begin (zPre ca D zcl (ztys ca) [.ref a0, .ref a1, .ref a2, .int x3] M sz (w_C_begin M a0 a1 a2 x3 post)) (va_Qv post (zB ca D zcl (ztys ca) (zA M sz)) (zA M sz)) 0 0 (zA M sz) := by
  refine z_met (cc := prog_3_method_3_code) (maxL := 4) (ret := none) (plainFor_of_name (by decide)) rfl (by simp [Value.category]) (Nat.le_of_ble_eq_true rfl) ?_
  intro p e s m args below meth c ls A hx hb hr hlk hml hts hown hnm hK hN hl hA0 hM hS hA h
  rw [← hA0]
  have hW : ∀ w ∈ zws, w.before args s = true := fun w hw => hts w (List.mem_cons_of_mem _ hw)
  have hl : zL ls 4 [(0, .ref a0), (1, .ref a1), (2, .ref a2), (3, .int x3)] := hl
  generalize hQ : MQ below (va_Qv post (zB ca D zcl (ztys ca) A) A) args s 0 0 A = Q
  have b_start : ∀ (M : zM) (H : Heap) (locs : List Loc) (ls : Array Slot) (a0 : Nat) (a1 : Nat) (a2 : Nat) (x3 : Int32), zL ls 4 [(0, .ref a0), (1, .ref a1), (2, .ref a2), (3, .int x3)] → zW ca D zcl A M H → va_S A s.heap H locs → w_C_begin M a0 a1 a2 x3 post → W p l e rm_C_begin s m args below meth c H locs 0 0 Q (F0 m 0 ls []) := by
    intro M H locs ls a0 a1 a2 x3 hl hM hS h
    unfold w_C_begin at h
    refine lv_aload_n hx hb d_C_begin_0 rfl (hl.at 1 rfl) ?_
    obtain ⟨t1, h⟩ := h
    refine z_getI hx hb hW in_3 hown hK hM t1 (by decide) rfl 2 (by decide) rfl (hW _ k_248) rfl d_C_begin_1 ?_
    refine lv_if_ne (tgt := 26) hx hb d_C_begin_4 rfl (fun c2 => ?_) (fun c2 => ?_)
    · replace h := h.2 c2
      refine lv_aload_n hx hb d_C_begin_26 rfl (hl.at 0 rfl) ?_
      obtain ⟨t3, h⟩ := h
      refine z_getI hx hb hW in_1 hown hK hM t3 (by decide) rfl 3 (by decide) rfl (hW _ k_153) rfl d_C_begin_27 ?_
      refine lv_if_eq (tgt := 41) hx hb d_C_begin_30 rfl (fun c4 => ?_) (fun c4 => ?_)
      · replace h := h.1 c4
        refine lv_aload_n hx hb d_C_begin_41 rfl (hl.at 1 rfl) ?_
        refine lv_iload_n hx hb d_C_begin_42 rfl (hl.at 3 rfl) ?_
        refine z_putI hx hb hW in_3 ty_3 tyok_3 nm_3 hown hK hM hS t1 (by decide) rfl 6 (by decide) rfl (hW _ k_257) rfl (Or.inl rfl) rfl rfl d_C_begin_43 (fun H locs hM hS => ?_)
        obtain ⟨M5, e6⟩ : ∃ z, z = zwI M a1 6 x3 := ⟨_, rfl⟩
        replace h := h M5 e6
        rw [← e6] at hM
        refine lv_aload_n hx hb d_C_begin_46 rfl (hl.at 1 rfl) ?_
        refine lv_iconst (v := (1 : Int32)) hx hb d_C_begin_47 (by decide) ?_
        have t7 : zT M5 a1 = some (3, 12) := by rw [e6]; exact t1
        refine z_putI hx hb hW in_3 ty_3 tyok_3 nm_3 hown hK hM hS t7 (by decide) rfl 8 (by decide) rfl (hW _ k_259) rfl (Or.inl rfl) rfl rfl d_C_begin_48 (fun H locs hM hS => ?_)
        obtain ⟨M8, e9⟩ : ∃ z, z = zwI M5 a1 8 (1 : Int32) := ⟨_, rfl⟩
        replace h := h M8 e9
        rw [← e9] at hM
        refine lv_aload_n hx hb d_C_begin_51 rfl (hl.at 2 rfl) ?_
        obtain ⟨t10, h⟩ := h
        refine z_getI hx hb hW in_6 hown hK hM t10 (by decide) rfl 0 (by decide) rfl (hW _ k_122) rfl d_C_begin_52 ?_
        refine lv_if_eq (tgt := 74) hx hb d_C_begin_55 rfl (fun c11 => ?_) (fun c11 => ?_)
        · replace h := h.1 c11
          rw [← hQ]
          exact z_vret hx hb hr hlk hK hM hS h d_C_begin_74
        · replace h := h.2 c11
          refine lv_aload_n hx hb d_C_begin_58 rfl (hl.at 1 rfl) ?_
          refine lv_aload_n hx hb d_C_begin_59 rfl (hl.at 2 rfl) ?_
          refine z_getI hx hb hW in_6 hown hK hM t10 (by decide) rfl 1 (by decide) rfl (hW _ k_124) rfl d_C_begin_60 ?_
          have t12 : zT M8 a1 = some (3, 12) := by rw [e9]; exact t7
          refine z_putI hx hb hW in_3 ty_3 tyok_3 nm_3 hown hK hM hS t12 (by decide) rfl 5 (by decide) rfl (hW _ k_255) rfl (Or.inl rfl) rfl rfl d_C_begin_63 (fun H locs hM hS => ?_)
          obtain ⟨M13, e14⟩ : ∃ z, z = zwI M8 a1 5 (zI M8 a2 1) := ⟨_, rfl⟩
          replace h := h M13 e14
          rw [← e14] at hM
          refine lv_aload_n hx hb d_C_begin_66 rfl (hl.at 1 rfl) ?_
          refine lv_aload_n hx hb d_C_begin_67 rfl (hl.at 2 rfl) ?_
          have t15 : zT M13 a2 = some (6, 6) := by rw [e14]; exact t10
          refine z_getI hx hb hW in_6 hown hK hM t15 (by decide) rfl 2 (by decide) rfl (hW _ k_126) rfl d_C_begin_68 ?_
          have t16 : zT M13 a1 = some (3, 12) := by rw [e14]; exact t12
          refine z_putI hx hb hW in_3 ty_3 tyok_3 nm_3 hown hK hM hS t16 (by decide) rfl 7 (by decide) rfl (hW _ k_258) rfl (Or.inl rfl) rfl rfl d_C_begin_71 (fun H locs hM hS => ?_)
          obtain ⟨M17, e18⟩ : ∃ z, z = zwI M13 a1 7 (zI M13 a2 2) := ⟨_, rfl⟩
          replace h := h M17 e18
          rw [← e18] at hM
          rw [← hQ]
          exact z_vret hx hb hr hlk hK hM hS h d_C_begin_74
      · replace h := h.2 c4
        refine lv_aload_n hx hb d_C_begin_33 rfl (hl.at 1 rfl) ?_
        refine lv_bipush (v := (7 : Int32)) hx hb d_C_begin_34 (by decide) ?_
        refine lv_iconst (v := (0 : Int32)) hx hb d_C_begin_36 (by decide) ?_
        refine z_ctv (mc := 0) (ms := 0) (va_runV (As := [.int (7 : Int32), .int (0 : Int32)]) (rest := []) ⟨hx, hb, hml, hown, hW⟩ (c_Q_settle l ca D M H.size a1 (7 : Int32) (0 : Int32) _) (cw_Q_settle hW k_300 ⟨by decide, by decide⟩) (zPre_V hK hN hM h t1 (by decide) rfl) rfl rfl hl.1.1 rfl (lv_room (Nat.le_of_ble_eq_true rfl)) d_C_begin_37 ⟨by decide, by decide⟩) hM hS hA (fun M19 H locs h hM hS => ?_)
        refine W.widen (k := 0) (n := 0) (by decide) (by decide) ?_
        rw [← hQ]
        exact z_vret hx hb hr hlk hK hM hS h d_C_begin_40
    · replace h := h.1 c2
      refine lv_aload_n hx hb d_C_begin_7 rfl (hl.at 2 rfl) ?_
      refine lv_iload_n hx hb d_C_begin_8 rfl (hl.at 3 rfl) ?_
      obtain ⟨t20, h⟩ := h
      refine z_cti (mc := 0) (ms := 0) (va_runV (As := [.int x3]) (rest := []) ⟨hx, hb, hml, hown, hW⟩ (c_K_isFresh l ca D M H.size a2 x3 _) (cw_K_isFresh hW k_296 ⟨by decide, by decide⟩) (zPre_V hK hN hM h t20 (by decide) rfl) rfl rfl hl.1.1 rfl (lv_room (Nat.le_of_ble_eq_true rfl)) d_C_begin_9 ⟨by decide, by decide⟩) hM hS hA (fun r21 M22 H locs h hM hS => ?_)
      refine lv_if_eq (tgt := 26) hx hb d_C_begin_12 rfl (fun c23 => ?_) (fun c23 => ?_)
      · replace h := h.1 c23
        refine lv_aload_n hx hb d_C_begin_26 rfl (hl.at 0 rfl) ?_
        obtain ⟨t24, h⟩ := h
        refine z_getI hx hb hW in_1 hown hK hM t24 (by decide) rfl 3 (by decide) rfl (hW _ k_153) rfl d_C_begin_27 ?_
        refine lv_if_eq (tgt := 41) hx hb d_C_begin_30 rfl (fun c25 => ?_) (fun c25 => ?_)
        · replace h := h.1 c25
          refine lv_aload_n hx hb d_C_begin_41 rfl (hl.at 1 rfl) ?_
          refine lv_iload_n hx hb d_C_begin_42 rfl (hl.at 3 rfl) ?_
          obtain ⟨t26, h⟩ := h
          refine z_putI hx hb hW in_3 ty_3 tyok_3 nm_3 hown hK hM hS t26 (by decide) rfl 6 (by decide) rfl (hW _ k_257) rfl (Or.inl rfl) rfl rfl d_C_begin_43 (fun H locs hM hS => ?_)
          obtain ⟨M27, e28⟩ : ∃ z, z = zwI M22 a1 6 x3 := ⟨_, rfl⟩
          replace h := h M27 e28
          rw [← e28] at hM
          refine lv_aload_n hx hb d_C_begin_46 rfl (hl.at 1 rfl) ?_
          refine lv_iconst (v := (1 : Int32)) hx hb d_C_begin_47 (by decide) ?_
          have t29 : zT M27 a1 = some (3, 12) := by rw [e28]; exact t26
          refine z_putI hx hb hW in_3 ty_3 tyok_3 nm_3 hown hK hM hS t29 (by decide) rfl 8 (by decide) rfl (hW _ k_259) rfl (Or.inl rfl) rfl rfl d_C_begin_48 (fun H locs hM hS => ?_)
          obtain ⟨M30, e31⟩ : ∃ z, z = zwI M27 a1 8 (1 : Int32) := ⟨_, rfl⟩
          replace h := h M30 e31
          rw [← e31] at hM
          refine lv_aload_n hx hb d_C_begin_51 rfl (hl.at 2 rfl) ?_
          obtain ⟨t32, h⟩ := h
          refine z_getI hx hb hW in_6 hown hK hM t32 (by decide) rfl 0 (by decide) rfl (hW _ k_122) rfl d_C_begin_52 ?_
          refine lv_if_eq (tgt := 74) hx hb d_C_begin_55 rfl (fun c33 => ?_) (fun c33 => ?_)
          · replace h := h.1 c33
            refine W.widen (k := 0) (n := 0) (by decide) (by decide) ?_
            rw [← hQ]
            exact z_vret hx hb hr hlk hK hM hS h d_C_begin_74
          · replace h := h.2 c33
            refine lv_aload_n hx hb d_C_begin_58 rfl (hl.at 1 rfl) ?_
            refine lv_aload_n hx hb d_C_begin_59 rfl (hl.at 2 rfl) ?_
            refine z_getI hx hb hW in_6 hown hK hM t32 (by decide) rfl 1 (by decide) rfl (hW _ k_124) rfl d_C_begin_60 ?_
            have t34 : zT M30 a1 = some (3, 12) := by rw [e31]; exact t29
            refine z_putI hx hb hW in_3 ty_3 tyok_3 nm_3 hown hK hM hS t34 (by decide) rfl 5 (by decide) rfl (hW _ k_255) rfl (Or.inl rfl) rfl rfl d_C_begin_63 (fun H locs hM hS => ?_)
            obtain ⟨M35, e36⟩ : ∃ z, z = zwI M30 a1 5 (zI M30 a2 1) := ⟨_, rfl⟩
            replace h := h M35 e36
            rw [← e36] at hM
            refine lv_aload_n hx hb d_C_begin_66 rfl (hl.at 1 rfl) ?_
            refine lv_aload_n hx hb d_C_begin_67 rfl (hl.at 2 rfl) ?_
            have t37 : zT M35 a2 = some (6, 6) := by rw [e36]; exact t32
            refine z_getI hx hb hW in_6 hown hK hM t37 (by decide) rfl 2 (by decide) rfl (hW _ k_126) rfl d_C_begin_68 ?_
            have t38 : zT M35 a1 = some (3, 12) := by rw [e36]; exact t34
            refine z_putI hx hb hW in_3 ty_3 tyok_3 nm_3 hown hK hM hS t38 (by decide) rfl 7 (by decide) rfl (hW _ k_258) rfl (Or.inl rfl) rfl rfl d_C_begin_71 (fun H locs hM hS => ?_)
            obtain ⟨M39, e40⟩ : ∃ z, z = zwI M35 a1 7 (zI M35 a2 2) := ⟨_, rfl⟩
            replace h := h M39 e40
            rw [← e40] at hM
            refine W.widen (k := 0) (n := 0) (by decide) (by decide) ?_
            rw [← hQ]
            exact z_vret hx hb hr hlk hK hM hS h d_C_begin_74
        · replace h := h.2 c25
          refine lv_aload_n hx hb d_C_begin_33 rfl (hl.at 1 rfl) ?_
          refine lv_bipush (v := (7 : Int32)) hx hb d_C_begin_34 (by decide) ?_
          refine lv_iconst (v := (0 : Int32)) hx hb d_C_begin_36 (by decide) ?_
          obtain ⟨t41, h⟩ := h
          refine z_ctv (mc := 0) (ms := 0) (va_runV (As := [.int (7 : Int32), .int (0 : Int32)]) (rest := []) ⟨hx, hb, hml, hown, hW⟩ (c_Q_settle l ca D M22 H.size a1 (7 : Int32) (0 : Int32) _) (cw_Q_settle hW k_300 ⟨by decide, by decide⟩) (zPre_V hK hN hM h t41 (by decide) rfl) rfl rfl hl.1.1 rfl (lv_room (Nat.le_of_ble_eq_true rfl)) d_C_begin_37 ⟨by decide, by decide⟩) hM hS hA (fun M42 H locs h hM hS => ?_)
          refine W.widen (k := 0) (n := 0) (by decide) (by decide) ?_
          rw [← hQ]
          exact z_vret hx hb hr hlk hK hM hS h d_C_begin_40
      · replace h := h.2 c23
        refine lv_aload_n hx hb d_C_begin_15 rfl (hl.at 1 rfl) ?_
        refine lv_bipush (v := (8 : Int32)) hx hb d_C_begin_16 (by decide) ?_
        refine lv_aload_n hx hb d_C_begin_18 rfl (hl.at 2 rfl) ?_
        obtain ⟨t43, h⟩ := h
        refine z_getI hx hb hW in_6 hown hK hM t43 (by decide) rfl 2 (by decide) rfl (hW _ k_126) rfl d_C_begin_19 ?_
        obtain ⟨t44, h⟩ := h
        refine z_ctv (mc := 0) (ms := 0) (va_runV (As := [.int (8 : Int32), .int (zI M22 a2 2)]) (rest := []) ⟨hx, hb, hml, hown, hW⟩ (c_Q_settle l ca D M22 H.size a1 (8 : Int32) (zI M22 a2 2) _) (cw_Q_settle hW k_300 ⟨by decide, by decide⟩) (zPre_V hK hN hM h t44 (by decide) rfl) rfl rfl hl.1.1 rfl (lv_room (Nat.le_of_ble_eq_true rfl)) d_C_begin_22 ⟨by decide, by decide⟩) hM hS hA (fun M45 H locs h hM hS => ?_)
        refine W.widen (k := 0) (n := 0) (by decide) (by decide) ?_
        rw [← hQ]
        exact z_vret hx hb hr hlk hK hM hS h d_C_begin_25
  exact b_start M s.heap [] ls a0 a1 a2 x3 hl hM hS h
set_option maxHeartbeats 4000000 in
set_option maxRecDepth 100000 in
theorem c_C_mustWaitFor (l : Launch) (ca : Nat → ClassId) (D : va_G) (M : zM) (sz : Nat) (a0 : Nat) (a1 : Nat) (post : Int32 → zM → Prop) : Met l y_C_mustWaitFor (Cond.code y_C_mustWaitFor prog_3_method_4_code 2 (some .boolean) :: zws) rm_C_mustWaitFor (zPre ca D zcl (ztys ca) [.ref a0, .ref a1] M sz (w_C_mustWaitFor M a0 a1 post)) (va_Qi post (zB ca D zcl (ztys ca) (zA M sz)) (zA M sz)) 0 0 (zA M sz) := by
  refine z_met (cc := prog_3_method_4_code) (maxL := 2) (ret := (some .boolean)) (plainFor_of_name (by decide)) rfl (by simp [Value.category]) (Nat.le_of_ble_eq_true rfl) ?_
  intro p e s m args below meth c ls A hx hb hr hlk hml hts hown hnm hK hN hl hA0 hM hS hA h
  rw [← hA0]
  have hW : ∀ w ∈ zws, w.before args s = true := fun w hw => hts w (List.mem_cons_of_mem _ hw)
  have hl : zL ls 2 [(0, .ref a0), (1, .ref a1)] := hl
  generalize hQ : MQ below (va_Qi post (zB ca D zcl (ztys ca) A) A) args s 0 0 A = Q
  have b_start : ∀ (M : zM) (H : Heap) (locs : List Loc) (ls : Array Slot) (a0 : Nat) (a1 : Nat), zL ls 2 [(0, .ref a0), (1, .ref a1)] → zW ca D zcl A M H → va_S A s.heap H locs → w_C_mustWaitFor M a0 a1 post → W p l e rm_C_mustWaitFor s m args below meth c H locs 0 0 Q (F0 m 0 ls []) := by
    intro M H locs ls a0 a1 hl hM hS h
    unfold w_C_mustWaitFor at h
    refine lv_aload_n hx hb d_C_mustWaitFor_0 rfl (hl.at 1 rfl) ?_
    obtain ⟨t1, h⟩ := h
    refine z_getI hx hb hW in_0 hown hK hM t1 (by decide) rfl 3 (by decide) rfl (hW _ k_341) rfl d_C_mustWaitFor_1 ?_
    refine lv_aload_n hx hb d_C_mustWaitFor_4 rfl (hl.at 0 rfl) ?_
    obtain ⟨t2, h⟩ := h
    refine z_getI hx hb hW in_1 hown hK hM t2 (by decide) rfl 1 (by decide) rfl (hW _ k_149) rfl d_C_mustWaitFor_5 ?_
    refine lv_icmp_le (tgt := 15) hx hb d_C_mustWaitFor_8 rfl (fun c3 => ?_) (fun c3 => ?_)
    · replace h := h.1 c3
      refine lv_iconst (v := (0 : Int32)) hx hb d_C_mustWaitFor_15 (by decide) ?_
      rw [← hQ]
      exact z_zret hx hb hr hlk rfl hK hM hS h d_C_mustWaitFor_16
    · replace h := h.2 c3
      refine lv_iconst (v := (1 : Int32)) hx hb d_C_mustWaitFor_11 (by decide) ?_
      refine lv_goto (tgt := 16) hx hb d_C_mustWaitFor_12 rfl ?_
      rw [← hQ]
      exact z_zret hx hb hr hlk rfl hK hM hS h d_C_mustWaitFor_16
  exact b_start M s.heap [] ls a0 a1 hl hM hS h
set_option maxHeartbeats 4000000 in
set_option maxRecDepth 100000 in
theorem c_K_forgetIfOlderThan (l : Launch) (ca : Nat → ClassId) (D : va_G) (M : zM) (sz : Nat) (a0 : Nat) (x1 : Int32) (post : zM → Prop) : Met l y_K_forgetIfOlderThan (Cond.code y_K_forgetIfOlderThan prog_8_method_4_code 2 none :: zws) rm_K_forgetIfOlderThan (zPre ca D zcl (ztys ca) [.ref a0, .int x1] M sz (w_K_forgetIfOlderThan M a0 x1 post)) (va_Qv post (zB ca D zcl (ztys ca) (zA M sz)) (zA M sz)) 0 0 (zA M sz) := by
  refine z_met (cc := prog_8_method_4_code) (maxL := 2) (ret := none) (plainFor_of_name (by decide)) rfl (by simp [Value.category]) (Nat.le_of_ble_eq_true rfl) ?_
  intro p e s m args below meth c ls A hx hb hr hlk hml hts hown hnm hK hN hl hA0 hM hS hA h
  rw [← hA0]
  have hW : ∀ w ∈ zws, w.before args s = true := fun w hw => hts w (List.mem_cons_of_mem _ hw)
  have hl : zL ls 2 [(0, .ref a0), (1, .int x1)] := hl
  generalize hQ : MQ below (va_Qv post (zB ca D zcl (ztys ca) A) A) args s 0 0 A = Q
  have b_start : ∀ (M : zM) (H : Heap) (locs : List Loc) (ls : Array Slot) (a0 : Nat) (x1 : Int32), zL ls 2 [(0, .ref a0), (1, .int x1)] → zW ca D zcl A M H → va_S A s.heap H locs → w_K_forgetIfOlderThan M a0 x1 post → W p l e rm_K_forgetIfOlderThan s m args below meth c H locs 0 0 Q (F0 m 0 ls []) := by
    intro M H locs ls a0 x1 hl hM hS h
    unfold w_K_forgetIfOlderThan at h
    refine lv_aload_n hx hb d_K_forgetIfOlderThan_0 rfl (hl.at 0 rfl) ?_
    obtain ⟨t1, h⟩ := h
    refine z_getI hx hb hW in_6 hown hK hM t1 (by decide) rfl 5 (by decide) rfl (hW _ k_132) rfl d_K_forgetIfOlderThan_1 ?_
    refine lv_iload_n hx hb d_K_forgetIfOlderThan_4 rfl (hl.at 1 rfl) ?_
    refine lv_icmp_ge (tgt := 13) hx hb d_K_forgetIfOlderThan_5 rfl (fun c2 => ?_) (fun c2 => ?_)
    · replace h := h.1 c2
      rw [← hQ]
      exact z_vret hx hb hr hlk hK hM hS h d_K_forgetIfOlderThan_13
    · replace h := h.2 c2
      refine lv_aload_n hx hb d_K_forgetIfOlderThan_8 rfl (hl.at 0 rfl) ?_
      refine lv_iconst (v := (0 : Int32)) hx hb d_K_forgetIfOlderThan_9 (by decide) ?_
      refine z_putI hx hb hW in_6 ty_6 tyok_6 nm_6 hown hK hM hS t1 (by decide) rfl 0 (by decide) rfl (hW _ k_121) rfl (Or.inl rfl) rfl rfl d_K_forgetIfOlderThan_10 (fun H locs hM hS => ?_)
      obtain ⟨M3, e4⟩ : ∃ z, z = zwI M a0 0 (0 : Int32) := ⟨_, rfl⟩
      replace h := h M3 e4
      rw [← e4] at hM
      rw [← hQ]
      exact z_vret hx hb hr hlk hK hM hS h d_K_forgetIfOlderThan_13
  exact b_start M s.heap [] ls a0 x1 hl hM hS h
set_option maxHeartbeats 4000000 in
set_option maxRecDepth 100000 in
theorem c_C_store (l : Launch) (ca : Nat → ClassId) (D : va_G) (M : zM) (sz : Nat) (a0 : Nat) (a1 : Nat) (a2 : Nat) (a3 : Nat) (post : zM → Prop) : Met l y_C_store (Cond.code y_C_store prog_3_method_6_code 4 none :: zws) rm_C_store (zPre ca D zcl (ztys ca) [.ref a0, .ref a1, .ref a2, .ref a3] M sz (w_C_store M a0 a1 a2 a3 post)) (va_Qv post (zB ca D zcl (ztys ca) (zA M sz)) (zA M sz)) 0 0 (zA M sz) := by
  refine z_met (cc := prog_3_method_6_code) (maxL := 4) (ret := none) (plainFor_of_name (by decide)) rfl (by simp [Value.category]) (Nat.le_of_ble_eq_true rfl) ?_
  intro p e s m args below meth c ls A hx hb hr hlk hml hts hown hnm hK hN hl hA0 hM hS hA h
  rw [← hA0]
  have hW : ∀ w ∈ zws, w.before args s = true := fun w hw => hts w (List.mem_cons_of_mem _ hw)
  have hl : zL ls 4 [(0, .ref a0), (1, .ref a1), (2, .ref a2), (3, .ref a3)] := hl
  generalize hQ : MQ below (va_Qv post (zB ca D zcl (ztys ca) A) A) args s 0 0 A = Q
  have b_19 : ∀ (M : zM) (H : Heap) (locs : List Loc) (ls : Array Slot) (a0 : Nat) (a1 : Nat) (a2 : Nat) (a3 : Nat), zL ls 4 [(0, .ref a0), (1, .ref a1), (2, .ref a2), (3, .ref a3)] → zW ca D zcl A M H → va_S A s.heap H locs → w_C_store_19 post M a0 a1 a2 a3 → W p l e rm_C_store s m args below meth c H locs 0 0 Q (F0 m 19 ls []) := by
    intro M H locs ls a0 a1 a2 a3 hl hM hS h
    unfold w_C_store_19 at h
    refine lv_aload_n hx hb d_C_store_19 rfl (hl.at 1 rfl) ?_
    refine lv_iconst (v := (1 : Int32)) hx hb d_C_store_20 (by decide) ?_
    obtain ⟨t3, h⟩ := h
    refine z_putI hx hb hW in_6 ty_6 tyok_6 nm_6 hown hK hM hS t3 (by decide) rfl 0 (by decide) rfl (hW _ k_122) rfl (Or.inl rfl) rfl rfl d_C_store_21 (fun H locs hM hS => ?_)
    obtain ⟨M4, e5⟩ : ∃ z, z = zwI M a1 0 (1 : Int32) := ⟨_, rfl⟩
    replace h := h M4 e5
    rw [← e5] at hM
    refine lv_aload_n hx hb d_C_store_24 rfl (hl.at 1 rfl) ?_
    refine lv_aload_n hx hb d_C_store_25 rfl (hl.at 3 rfl) ?_
    obtain ⟨t6, h⟩ := h
    refine z_getI hx hb hW in_0 hown hK hM t6 (by decide) rfl 4 (by decide) rfl (hW _ k_344) rfl d_C_store_26 ?_
    have t7 : zT M4 a1 = some (6, 6) := by rw [e5]; exact t3
    refine z_putI hx hb hW in_6 ty_6 tyok_6 nm_6 hown hK hM hS t7 (by decide) rfl 1 (by decide) rfl (hW _ k_124) rfl (Or.inl rfl) rfl rfl d_C_store_29 (fun H locs hM hS => ?_)
    obtain ⟨M8, e9⟩ : ∃ z, z = zwI M4 a1 1 (zI M4 a3 4) := ⟨_, rfl⟩
    replace h := h M8 e9
    rw [← e9] at hM
    refine lv_aload_n hx hb d_C_store_32 rfl (hl.at 1 rfl) ?_
    refine lv_aload_n hx hb d_C_store_33 rfl (hl.at 3 rfl) ?_
    have t10 : zT M8 a3 = some (0, 10) := by rw [e9]; exact t6
    refine z_getI hx hb hW in_0 hown hK hM t10 (by decide) rfl 6 (by decide) rfl (hW _ k_348) rfl d_C_store_34 ?_
    have t11 : zT M8 a1 = some (6, 6) := by rw [e9]; exact t7
    refine z_putI hx hb hW in_6 ty_6 tyok_6 nm_6 hown hK hM hS t11 (by decide) rfl 2 (by decide) rfl (hW _ k_126) rfl (Or.inl rfl) rfl rfl d_C_store_37 (fun H locs hM hS => ?_)
    obtain ⟨M12, e13⟩ : ∃ z, z = zwI M8 a1 2 (zI M8 a3 6) := ⟨_, rfl⟩
    replace h := h M12 e13
    rw [← e13] at hM
    refine lv_aload_n hx hb d_C_store_40 rfl (hl.at 1 rfl) ?_
    refine lv_aload_n hx hb d_C_store_41 rfl (hl.at 3 rfl) ?_
    have t14 : zT M12 a3 = some (0, 10) := by rw [e13]; exact t10
    refine z_getI hx hb hW in_0 hown hK hM t14 (by decide) rfl 5 (by decide) rfl (hW _ k_346) rfl d_C_store_42 ?_
    have t15 : zT M12 a1 = some (6, 6) := by rw [e13]; exact t11
    refine z_putI hx hb hW in_6 ty_6 tyok_6 nm_6 hown hK hM hS t15 (by decide) rfl 3 (by decide) rfl (hW _ k_129) rfl (Or.inl rfl) rfl rfl d_C_store_45 (fun H locs hM hS => ?_)
    obtain ⟨M16, e17⟩ : ∃ z, z = zwI M12 a1 3 (zI M12 a3 5) := ⟨_, rfl⟩
    replace h := h M16 e17
    rw [← e17] at hM
    refine lv_aload_n hx hb d_C_store_48 rfl (hl.at 1 rfl) ?_
    refine lv_aload_n hx hb d_C_store_49 rfl (hl.at 2 rfl) ?_
    obtain ⟨t18, h⟩ := h
    refine z_getI hx hb hW in_3 hown hK hM t18 (by decide) rfl 6 (by decide) rfl (hW _ k_257) rfl d_C_store_50 ?_
    have t19 : zT M16 a1 = some (6, 6) := by rw [e17]; exact t15
    refine z_putI hx hb hW in_6 ty_6 tyok_6 nm_6 hown hK hM hS t19 (by decide) rfl 4 (by decide) rfl (hW _ k_131) rfl (Or.inl rfl) rfl rfl d_C_store_53 (fun H locs hM hS => ?_)
    obtain ⟨M20, e21⟩ : ∃ z, z = zwI M16 a1 4 (zI M16 a2 6) := ⟨_, rfl⟩
    replace h := h M20 e21
    rw [← e21] at hM
    refine lv_aload_n hx hb d_C_store_56 rfl (hl.at 1 rfl) ?_
    refine lv_aload_n hx hb d_C_store_57 rfl (hl.at 2 rfl) ?_
    have t22 : zT M20 a2 = some (3, 12) := by rw [e21]; exact t18
    refine z_getI hx hb hW in_3 hown hK hM t22 (by decide) rfl 0 (by decide) rfl (hW _ k_242) rfl d_C_store_58 ?_
    have t23 : zT M20 a1 = some (6, 6) := by rw [e21]; exact t19
    refine z_putI hx hb hW in_6 ty_6 tyok_6 nm_6 hown hK hM hS t23 (by decide) rfl 5 (by decide) rfl (hW _ k_133) rfl (Or.inl rfl) rfl rfl d_C_store_61 (fun H locs hM hS => ?_)
    obtain ⟨M24, e25⟩ : ∃ z, z = zwI M20 a1 5 (zI M20 a2 0) := ⟨_, rfl⟩
    replace h := h M24 e25
    rw [← e25] at hM
    rw [← hQ]
    exact z_vret hx hb hr hlk hK hM hS h d_C_store_64
  have b_start : ∀ (M : zM) (H : Heap) (locs : List Loc) (ls : Array Slot) (a0 : Nat) (a1 : Nat) (a2 : Nat) (a3 : Nat), zL ls 4 [(0, .ref a0), (1, .ref a1), (2, .ref a2), (3, .ref a3)] → zW ca D zcl A M H → va_S A s.heap H locs → w_C_store M a0 a1 a2 a3 post → W p l e rm_C_store s m args below meth c H locs 0 0 Q (F0 m 0 ls []) := by
    intro M H locs ls a0 a1 a2 a3 hl hM hS h
    unfold w_C_store at h
    refine lv_aload_n hx hb d_C_store_0 rfl (hl.at 1 rfl) ?_
    obtain ⟨t1, h⟩ := h
    refine z_getI hx hb hW in_6 hown hK hM t1 (by decide) rfl 0 (by decide) rfl (hW _ k_122) rfl d_C_store_1 ?_
    refine lv_if_eq (tgt := 19) hx hb d_C_store_4 rfl (fun c2 => ?_) (fun c2 => ?_)
    · replace h := h.1 c2
      exact b_19 M H locs ls a0 a1 a2 a3 (hl.sub [0, 1, 2, 3] rfl) hM hS h
    · replace h := h.2 c2
      refine lv_aload_n hx hb d_C_store_7 rfl (hl.at 1 rfl) ?_
      refine z_getI hx hb hW in_6 hown hK hM t1 (by decide) rfl 5 (by decide) rfl (hW _ k_133) rfl d_C_store_8 ?_
      refine lv_aload_n hx hb d_C_store_11 rfl (hl.at 2 rfl) ?_
      obtain ⟨t26, h⟩ := h
      refine z_getI hx hb hW in_3 hown hK hM t26 (by decide) rfl 0 (by decide) rfl (hW _ k_242) rfl d_C_store_12 ?_
      refine lv_icmp_lt (tgt := 19) hx hb d_C_store_15 rfl (fun c27 => ?_) (fun c27 => ?_)
      · replace h := h.1 c27
        exact b_19 M H locs ls a0 a1 a2 a3 (hl.sub [0, 1, 2, 3] rfl) hM hS h
      · replace h := h.2 c27
        rw [← hQ]
        exact z_vret hx hb hr hlk hK hM hS h d_C_store_18
  exact b_start M s.heap [] ls a0 a1 a2 a3 hl hM hS h
set_option maxHeartbeats 4000000 in
set_option maxRecDepth 100000 in
theorem c_C_renew (l : Launch) (ca : Nat → ClassId) (D : va_G) (M : zM) (sz : Nat) (a0 : Nat) (a1 : Nat) (a2 : Nat) (a3 : Nat) (post : zM → Prop) : Met l y_C_renew (Cond.code y_C_renew prog_3_method_7_code 4 none :: zws) rm_C_renew (zPre ca D zcl (ztys ca) [.ref a0, .ref a1, .ref a2, .ref a3] M sz (w_C_renew M a0 a1 a2 a3 post)) (va_Qv post (zB ca D zcl (ztys ca) (zA M sz)) (zA M sz)) 0 0 (zA M sz) := by
  refine z_met (cc := prog_3_method_7_code) (maxL := 4) (ret := none) (plainFor_of_name (by decide)) rfl (by simp [Value.category]) (Nat.le_of_ble_eq_true rfl) ?_
  intro p e s m args below meth c ls A hx hb hr hlk hml hts hown hnm hK hN hl hA0 hM hS hA h
  rw [← hA0]
  have hW : ∀ w ∈ zws, w.before args s = true := fun w hw => hts w (List.mem_cons_of_mem _ hw)
  have hl : zL ls 4 [(0, .ref a0), (1, .ref a1), (2, .ref a2), (3, .ref a3)] := hl
  generalize hQ : MQ below (va_Qv post (zB ca D zcl (ztys ca) A) A) args s 0 0 A = Q
  have b_start : ∀ (M : zM) (H : Heap) (locs : List Loc) (ls : Array Slot) (a0 : Nat) (a1 : Nat) (a2 : Nat) (a3 : Nat), zL ls 4 [(0, .ref a0), (1, .ref a1), (2, .ref a2), (3, .ref a3)] → zW ca D zcl A M H → va_S A s.heap H locs → w_C_renew M a0 a1 a2 a3 post → W p l e rm_C_renew s m args below meth c H locs 0 0 Q (F0 m 0 ls []) := by
    intro M H locs ls a0 a1 a2 a3 hl hM hS h
    unfold w_C_renew at h
    refine lv_aload_n hx hb d_C_renew_0 rfl (hl.at 1 rfl) ?_
    obtain ⟨t1, h⟩ := h
    refine z_getI hx hb hW in_6 hown hK hM t1 (by decide) rfl 0 (by decide) rfl (hW _ k_122) rfl d_C_renew_1 ?_
    refine lv_if_eq (tgt := 29) hx hb d_C_renew_4 rfl (fun c2 => ?_) (fun c2 => ?_)
    · replace h := h.1 c2
      rw [← hQ]
      exact z_vret hx hb hr hlk hK hM hS h d_C_renew_29
    · replace h := h.2 c2
      refine lv_aload_n hx hb d_C_renew_7 rfl (hl.at 1 rfl) ?_
      refine z_getI hx hb hW in_6 hown hK hM t1 (by decide) rfl 1 (by decide) rfl (hW _ k_124) rfl d_C_renew_8 ?_
      refine lv_aload_n hx hb d_C_renew_11 rfl (hl.at 3 rfl) ?_
      obtain ⟨t3, h⟩ := h
      refine z_getI hx hb hW in_0 hown hK hM t3 (by decide) rfl 4 (by decide) rfl (hW _ k_344) rfl d_C_renew_12 ?_
      refine lv_icmp_ne (tgt := 29) hx hb d_C_renew_15 rfl (fun c4 => ?_) (fun c4 => ?_)
      · replace h := h.2 c4
        rw [← hQ]
        exact z_vret hx hb hr hlk hK hM hS h d_C_renew_29
      · replace h := h.1 c4
        refine lv_aload_n hx hb d_C_renew_18 rfl (hl.at 1 rfl) ?_
        refine z_getI hx hb hW in_6 hown hK hM t1 (by decide) rfl 5 (by decide) rfl (hW _ k_133) rfl d_C_renew_19 ?_
        refine lv_aload_n hx hb d_C_renew_22 rfl (hl.at 2 rfl) ?_
        obtain ⟨t5, h⟩ := h
        refine z_getI hx hb hW in_3 hown hK hM t5 (by decide) rfl 0 (by decide) rfl (hW _ k_242) rfl d_C_renew_23 ?_
        refine lv_icmp_lt (tgt := 30) hx hb d_C_renew_26 rfl (fun c6 => ?_) (fun c6 => ?_)
        · replace h := h.1 c6
          refine lv_aload_n hx hb d_C_renew_30 rfl (hl.at 1 rfl) ?_
          refine lv_aload_n hx hb d_C_renew_31 rfl (hl.at 3 rfl) ?_
          refine z_getI hx hb hW in_0 hown hK hM t3 (by decide) rfl 5 (by decide) rfl (hW _ k_346) rfl d_C_renew_32 ?_
          refine z_putI hx hb hW in_6 ty_6 tyok_6 nm_6 hown hK hM hS t1 (by decide) rfl 3 (by decide) rfl (hW _ k_129) rfl (Or.inl rfl) rfl rfl d_C_renew_35 (fun H locs hM hS => ?_)
          obtain ⟨M7, e8⟩ : ∃ z, z = zwI M a1 3 (zI M a3 5) := ⟨_, rfl⟩
          replace h := h M7 e8
          rw [← e8] at hM
          refine lv_aload_n hx hb d_C_renew_38 rfl (hl.at 1 rfl) ?_
          refine lv_aload_n hx hb d_C_renew_39 rfl (hl.at 2 rfl) ?_
          have t9 : zT M7 a2 = some (3, 12) := by rw [e8]; exact t5
          refine z_getI hx hb hW in_3 hown hK hM t9 (by decide) rfl 6 (by decide) rfl (hW _ k_257) rfl d_C_renew_40 ?_
          have t10 : zT M7 a1 = some (6, 6) := by rw [e8]; exact t1
          refine z_putI hx hb hW in_6 ty_6 tyok_6 nm_6 hown hK hM hS t10 (by decide) rfl 4 (by decide) rfl (hW _ k_131) rfl (Or.inl rfl) rfl rfl d_C_renew_43 (fun H locs hM hS => ?_)
          obtain ⟨M11, e12⟩ : ∃ z, z = zwI M7 a1 4 (zI M7 a2 6) := ⟨_, rfl⟩
          replace h := h M11 e12
          rw [← e12] at hM
          refine lv_aload_n hx hb d_C_renew_46 rfl (hl.at 1 rfl) ?_
          refine lv_aload_n hx hb d_C_renew_47 rfl (hl.at 2 rfl) ?_
          have t13 : zT M11 a2 = some (3, 12) := by rw [e12]; exact t9
          refine z_getI hx hb hW in_3 hown hK hM t13 (by decide) rfl 0 (by decide) rfl (hW _ k_242) rfl d_C_renew_48 ?_
          have t14 : zT M11 a1 = some (6, 6) := by rw [e12]; exact t10
          refine z_putI hx hb hW in_6 ty_6 tyok_6 nm_6 hown hK hM hS t14 (by decide) rfl 5 (by decide) rfl (hW _ k_133) rfl (Or.inl rfl) rfl rfl d_C_renew_51 (fun H locs hM hS => ?_)
          obtain ⟨M15, e16⟩ : ∃ z, z = zwI M11 a1 5 (zI M11 a2 0) := ⟨_, rfl⟩
          replace h := h M15 e16
          rw [← e16] at hM
          rw [← hQ]
          exact z_vret hx hb hr hlk hK hM hS h d_C_renew_54
        · replace h := h.2 c6
          rw [← hQ]
          exact z_vret hx hb hr hlk hK hM hS h d_C_renew_29
  exact b_start M s.heap [] ls a0 a1 a2 a3 hl hM hS h
set_option maxHeartbeats 4000000 in
set_option maxRecDepth 100000 in
theorem c_F_append (l : Launch) (ca : Nat → ClassId) (D : va_G) (M : zM) (sz : Nat) (a0 : Nat) (x1 : Int32) (x2 : Int32) (post : zM → Prop) : Met l y_F_append (Cond.code y_F_append prog_4_method_2_code 3 none :: zws) rm_F_append (zPre ca D zcl (ztys ca) [.ref a0, .int x1, .int x2] M sz (w_F_append M a0 x1 x2 post)) (va_Qv post (zB ca D zcl (ztys ca) (zA M sz)) (zA M sz)) 0 0 (zA M sz) := by
  refine z_met (cc := prog_4_method_2_code) (maxL := 3) (ret := none) (plainFor_of_name (by decide)) rfl (by simp [Value.category]) (Nat.le_of_ble_eq_true rfl) ?_
  intro p e s m args below meth c ls A hx hb hr hlk hml hts hown hnm hK hN hl hA0 hM hS hA h
  rw [← hA0]
  have hW : ∀ w ∈ zws, w.before args s = true := fun w hw => hts w (List.mem_cons_of_mem _ hw)
  have hl : zL ls 3 [(0, .ref a0), (1, .int x1), (2, .int x2)] := hl
  generalize hQ : MQ below (va_Qv post (zB ca D zcl (ztys ca) A) A) args s 0 0 A = Q
  have b_start : ∀ (M : zM) (H : Heap) (locs : List Loc) (ls : Array Slot) (a0 : Nat) (x1 : Int32) (x2 : Int32), zL ls 3 [(0, .ref a0), (1, .int x1), (2, .int x2)] → zW ca D zcl A M H → va_S A s.heap H locs → w_F_append M a0 x1 x2 post → W p l e rm_F_append s m args below meth c H locs 0 0 Q (F0 m 0 ls []) := by
    intro M H locs ls a0 x1 x2 hl hM hS h
    unfold w_F_append at h
    refine lv_aload_n hx hb d_F_append_0 rfl (hl.at 0 rfl) ?_
    obtain ⟨t1, h⟩ := h
    refine z_getI hx hb hW in_2 hown hK hM t1 (by decide) rfl 2 (by decide) rfl (hW _ k_172) rfl d_F_append_1 ?_
    refine lv_aload_n hx hb d_F_append_4 rfl (hl.at 0 rfl) ?_
    refine z_getR hx hb hW in_2 hown hK hM t1 (by decide) rfl 0 (by decide) rfl (hW _ k_170) rfl d_F_append_5 ?_
    obtain ⟨b2, hb3, h⟩ := h
    rw [hb3]
    obtain ⟨n5, t4, h⟩ := h
    refine z_alen hx hb hK hM t4 (by decide) 0 rfl d_F_append_8 ?_
    refine lv_icmp_ge (tgt := 24) hx hb d_F_append_9 rfl (fun c6 => ?_) (fun c6 => ?_)
    · replace h := h.1 c6
      rw [← hQ]
      exact z_vret hx hb hr hlk hK hM hS h d_F_append_24
    · replace h := h.2 c6
      refine lv_aload_n hx hb d_F_append_12 rfl (hl.at 0 rfl) ?_
      refine z_getI hx hb hW in_2 hown hK hM t1 (by decide) rfl 2 (by decide) rfl (hW _ k_172) rfl d_F_append_13 ?_
      refine lv_aload_n hx hb d_F_append_16 rfl (hl.at 0 rfl) ?_
      refine z_getR hx hb hW in_2 hown hK hM t1 (by decide) rfl 1 (by decide) rfl (hW _ k_171) rfl d_F_append_17 ?_
      obtain ⟨b7, hb8, h⟩ := h
      rw [hb8]
      obtain ⟨n10, t9, h⟩ := h
      refine z_alen hx hb hK hM t9 (by decide) 0 rfl d_F_append_20 ?_
      refine lv_icmp_lt (tgt := 25) hx hb d_F_append_21 rfl (fun c11 => ?_) (fun c11 => ?_)
      · replace h := h.1 c11
        refine lv_aload_n hx hb d_F_append_25 rfl (hl.at 0 rfl) ?_
        refine z_getR hx hb hW in_2 hown hK hM t1 (by decide) rfl 0 (by decide) rfl (hW _ k_170) rfl d_F_append_26 ?_
        refine lv_aload_n hx hb d_F_append_29 rfl (hl.at 0 rfl) ?_
        refine z_getI hx hb hW in_2 hown hK hM t1 (by decide) rfl 2 (by decide) rfl (hW _ k_172) rfl d_F_append_30 ?_
        refine lv_iload_n hx hb d_F_append_33 rfl (hl.at 1 rfl) ?_
        obtain ⟨b12, hb13, h⟩ := h
        rw [hb13]
        obtain ⟨n15, t14, h⟩ := h
        obtain ⟨i16, h⟩ := h
        refine z_iast hx hb hK hM hS t14 0 rfl i16 d_F_append_34 (fun H locs hM hS => ?_)
        obtain ⟨M17, e18⟩ : ∃ z, z = zwI M b12 (zI M a0 2).toNatClampNeg x1 := ⟨_, rfl⟩
        replace h := h M17 e18
        rw [← e18] at hM
        refine lv_aload_n hx hb d_F_append_35 rfl (hl.at 0 rfl) ?_
        have t19 : zT M17 a0 = some (2, 4) := by rw [e18]; exact t1
        refine z_getR hx hb hW in_2 hown hK hM t19 (by decide) rfl 1 (by decide) rfl (hW _ k_171) rfl d_F_append_36 ?_
        refine lv_aload_n hx hb d_F_append_39 rfl (hl.at 0 rfl) ?_
        refine z_getI hx hb hW in_2 hown hK hM t19 (by decide) rfl 2 (by decide) rfl (hW _ k_172) rfl d_F_append_40 ?_
        refine lv_iload_n hx hb d_F_append_43 rfl (hl.at 2 rfl) ?_
        obtain ⟨b20, hb21, h⟩ := h
        rw [hb21]
        obtain ⟨n23, t22, h⟩ := h
        obtain ⟨i24, h⟩ := h
        refine z_iast hx hb hK hM hS t22 0 rfl i24 d_F_append_44 (fun H locs hM hS => ?_)
        obtain ⟨M25, e26⟩ : ∃ z, z = zwI M17 b20 (zI M17 a0 2).toNatClampNeg x2 := ⟨_, rfl⟩
        replace h := h M25 e26
        rw [← e26] at hM
        refine lv_aload_n hx hb d_F_append_45 rfl (hl.at 0 rfl) ?_
        refine lv_dup hx hb d_F_append_46 rfl ?_
        have t27 : zT M25 a0 = some (2, 4) := by rw [e26]; exact t19
        refine z_getI hx hb hW in_2 hown hK hM t27 (by decide) rfl 2 (by decide) rfl (hW _ k_172) rfl d_F_append_47 ?_
        refine lv_iconst (v := (1 : Int32)) hx hb d_F_append_50 (by decide) ?_
        refine lv_iadd hx hb d_F_append_51 ?_
        refine z_putI hx hb hW in_2 ty_2 tyok_2 nm_2 hown hK hM hS t27 (by decide) rfl 2 (by decide) rfl (hW _ k_172) rfl (Or.inl rfl) rfl rfl d_F_append_52 (fun H locs hM hS => ?_)
        obtain ⟨M28, e29⟩ : ∃ z, z = zwI M25 a0 2 ((zI M25 a0 2) + (1 : Int32)) := ⟨_, rfl⟩
        replace h := h M28 e29
        rw [← e29] at hM
        rw [← hQ]
        exact z_vret hx hb hr hlk hK hM hS h d_F_append_55
      · replace h := h.2 c11
        rw [← hQ]
        exact z_vret hx hb hr hlk hK hM hS h d_F_append_24
  exact b_start M s.heap [] ls a0 x1 x2 hl hM hS h
