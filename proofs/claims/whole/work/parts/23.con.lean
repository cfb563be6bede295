set_option maxHeartbeats 4000000 in
set_option maxRecDepth 100000 in
theorem c_S_answerGet (l : Launch) (ca : Nat → ClassId) (D : va_G) (M : zM) (sz : Nat) (a0 : Nat) (a1 : Nat) (a2 : Nat) (post : Option Nat → zM → Prop) : Met l y_S_answerGet (Cond.code y_S_answerGet prog_7_method_6_code 5 (some (.object "TabledOrigin$Answer")) :: zws) rm_S_answerGet (zPre ca D zcl (ztys ca) [.ref a0, .ref a1, .ref a2] M sz (w_S_answerGet M a0 a1 a2 post)) (va_Qq post (zB ca D zcl (ztys ca) (zA M sz)) (zA M sz)) 2 13 (zA M sz) := by
  refine z_met (cc := prog_7_method_6_code) (maxL := 5) (ret := (some (.object "TabledOrigin$Answer"))) (plainFor_of_name (by decide)) rfl (by simp [Value.category]) (Nat.le_of_ble_eq_true rfl) ?_
  intro p e s m args below meth c ls A hx hb hr hlk hml hts hown hnm hK hN hl hA0 hM hS hA h
  rw [← hA0]
  have hW : ∀ w ∈ zws, w.before args s = true := fun w hw => hts w (List.mem_cons_of_mem _ hw)
  have hl : zL ls 5 [(0, .ref a0), (1, .ref a1), (2, .ref a2)] := hl
  generalize hQ : MQ below (va_Qq post (zB ca D zcl (ztys ca) A) A) args s 2 13 A = Q
  have b_52 : ∀ (M : zM) (H : Heap) (locs : List Loc) (ls : Array Slot) (a0 : Nat) (a1 : Nat) (a2 : Nat) (x3 : Int32) (v0 : Nat) (v1 : Nat) (u2 : Int32), zL ls 5 [(0, .ref a0), (1, .ref a1), (2, .ref a2), (3, .int x3)] → zW ca D zcl A M H → va_S A s.heap H locs → w_S_answerGet_52 post M a0 a1 a2 x3 v0 v1 u2 → W p l e rm_S_answerGet s m args below meth c H locs 1 10 Q (F0 m 52 ls [.int u2, .ref v1, .ref v0]) := by
    intro M H locs ls a0 a1 a2 x3 v0 v1 u2 hl hM hS h
    unfold w_S_answerGet_52 at h
    obtain ⟨t11, h⟩ := h
    refine z_ctv (mc := 1) (ms := 3) (va_runI (As := [.int u2]) (rest := [.ref v0]) ⟨hx, hb, hml, hown, hW⟩ (c_A_init l ca D M H.size v1 u2 _) (cw_A_init hW k_330 ⟨by decide, by decide⟩) (zPre_S hK hN hM h) rfl rfl hl.1.1 rfl (lv_room (Nat.le_of_ble_eq_true rfl)) d_S_answerGet_52 ⟨by decide, by decide⟩) hM hS hA (fun M12 H locs h hM hS => ?_)
    refine z_astore (x := some v0) hx hb d_S_answerGet_55 hl (by decide) rfl (fun ls hl => ?_)
    have hl : zL ls 5 [(4, .ref v0), (0, .ref a0), (1, .ref a1), (2, .ref a2), (3, .int x3)] := hl
    refine lv_aload hx hb d_S_answerGet_57 (hl.at 0 rfl) ?_
    refine lv_aload_n hx hb d_S_answerGet_59 rfl (hl.at 3 rfl) ?_
    obtain ⟨t13, h⟩ := h
    refine z_getI hx hb hW in_4 hown hK hM t13 (by decide) rfl 1 (by decide) rfl (hW _ k_36) rfl d_S_answerGet_60 ?_
    obtain ⟨t14, h⟩ := h
    refine z_putI hx hb hW in_0 ty_0 tyok_0 nm_0 hown hK hM hS t14 (by decide) rfl 4 (by decide) rfl (hW _ k_345) rfl (Or.inl rfl) rfl rfl d_S_answerGet_63 (fun H locs hM hS => ?_)
    obtain ⟨M15, e16⟩ : ∃ z, z = zwI M12 v0 4 (zI M12 a2 1) := ⟨_, rfl⟩
    replace h := h M15 e16
    rw [← e16] at hM
    refine lv_aload hx hb d_S_answerGet_66 (hl.at 0 rfl) ?_
    refine lv_aload_n hx hb d_S_answerGet_68 rfl (hl.at 3 rfl) ?_
    have t17 : zT M15 a2 = some (4, 4) := by rw [e16]; exact t13
    refine z_getI hx hb hW in_4 hown hK hM t17 (by decide) rfl 3 (by decide) rfl (hW _ k_38) rfl d_S_answerGet_69 ?_
    have t18 : zT M15 v0 = some (0, 10) := by rw [e16]; exact t14
    refine z_putI hx hb hW in_0 ty_0 tyok_0 nm_0 hown hK hM hS t18 (by decide) rfl 5 (by decide) rfl (hW _ k_347) rfl (Or.inl rfl) rfl rfl d_S_answerGet_72 (fun H locs hM hS => ?_)
    obtain ⟨M19, e20⟩ : ∃ z, z = zwI M15 v0 5 (zI M15 a2 3) := ⟨_, rfl⟩
    replace h := h M19 e20
    rw [← e20] at hM
    refine lv_aload_n hx hb d_S_answerGet_75 rfl (hl.at 1 rfl) ?_
    obtain ⟨t21, h⟩ := h
    refine z_getR hx hb hW in_5 hown hK hM t21 (by decide) rfl 1 (by decide) rfl (hW _ k_87) rfl d_S_answerGet_76 ?_
    refine lv_aload hx hb d_S_answerGet_79 (hl.at 0 rfl) ?_
    refine lv_iconst (v := (0 : Int32)) hx hb d_S_answerGet_81 (by decide) ?_
    refine lv_aload_n hx hb d_S_answerGet_82 rfl (hl.at 3 rfl) ?_
    have t22 : zT M19 a2 = some (4, 4) := by rw [e20]; exact t17
    refine z_getI hx hb hW in_4 hown hK hM t22 (by decide) rfl 1 (by decide) rfl (hW _ k_36) rfl d_S_answerGet_83 ?_
    obtain ⟨b23, hb24, h⟩ := h
    rw [hb24]
    obtain ⟨t25, h⟩ := h
    refine z_ctv (mc := 0) (ms := 0) (va_runV (As := [.ref v0, .int (0 : Int32), .int (zI M19 a2 1)]) (rest := []) ⟨hx, hb, hml, hown, hW⟩ (c_T_putDown l ca D M19 H.size b23 v0 (0 : Int32) (zI M19 a2 1) _) (cw_T_putDown hW k_377 ⟨by decide, by decide⟩) (zPre_V hK hN hM h t25 (by decide) rfl) rfl rfl hl.1.1 rfl (lv_room (Nat.le_of_ble_eq_true rfl)) d_S_answerGet_86 ⟨by decide, by decide⟩) hM hS hA (fun M26 H locs h hM hS => ?_)
    refine lv_aload_n hx hb d_S_answerGet_89 rfl (hl.at 1 rfl) ?_
    obtain ⟨t27, h⟩ := h
    refine z_getR hx hb hW in_5 hown hK hM t27 (by decide) rfl 1 (by decide) rfl (hW _ k_87) rfl d_S_answerGet_90 ?_
    refine lv_aload hx hb d_S_answerGet_93 (hl.at 0 rfl) ?_
    refine lv_iconst (v := (1 : Int32)) hx hb d_S_answerGet_95 (by decide) ?_
    refine lv_aload_n hx hb d_S_answerGet_96 rfl (hl.at 3 rfl) ?_
    obtain ⟨t28, h⟩ := h
    refine z_getI hx hb hW in_4 hown hK hM t28 (by decide) rfl 3 (by decide) rfl (hW _ k_38) rfl d_S_answerGet_97 ?_
    obtain ⟨b29, hb30, h⟩ := h
    rw [hb30]
    obtain ⟨t31, h⟩ := h
    refine z_ctv (mc := 0) (ms := 0) (va_runV (As := [.ref v0, .int (1 : Int32), .int (zI M26 a2 3)]) (rest := []) ⟨hx, hb, hml, hown, hW⟩ (c_T_putDown l ca D M26 H.size b29 v0 (1 : Int32) (zI M26 a2 3) _) (cw_T_putDown hW k_377 ⟨by decide, by decide⟩) (zPre_V hK hN hM h t31 (by decide) rfl) rfl rfl hl.1.1 rfl (lv_room (Nat.le_of_ble_eq_true rfl)) d_S_answerGet_100 ⟨by decide, by decide⟩) hM hS hA (fun M32 H locs h hM hS => ?_)
    refine lv_iload_n hx hb d_S_answerGet_103 rfl (hl.at 4 rfl) ?_
    refine lv_if_ne (tgt := 130) hx hb d_S_answerGet_104 rfl (fun c33 => ?_) (fun c33 => ?_)
    · replace h := h.2 c33
      refine lv_aload hx hb d_S_answerGet_130 (hl.at 0 rfl) ?_
      refine W.widen (k := 2) (n := 13) (by decide) (by decide) ?_
      rw [← hQ]
      exact z_aret (v := (some v0)) hx hb hr hlk hK hM hS h d_S_answerGet_132
    · replace h := h.1 c33
      refine lv_aload hx hb d_S_answerGet_107 (hl.at 0 rfl) ?_
      refine lv_aload_n hx hb d_S_answerGet_109 rfl (hl.at 3 rfl) ?_
      obtain ⟨t34, h⟩ := h
      refine z_getI hx hb hW in_4 hown hK hM t34 (by decide) rfl 2 (by decide) rfl (hW _ k_37) rfl d_S_answerGet_110 ?_
      obtain ⟨t35, h⟩ := h
      refine z_putI hx hb hW in_0 ty_0 tyok_0 nm_0 hown hK hM hS t35 (by decide) rfl 6 (by decide) rfl (hW _ k_349) rfl (Or.inl rfl) rfl rfl d_S_answerGet_113 (fun H locs hM hS => ?_)
      obtain ⟨M36, e37⟩ : ∃ z, z = zwI M32 v0 6 (zI M32 a2 2) := ⟨_, rfl⟩
      replace h := h M36 e37
      rw [← e37] at hM
      refine lv_aload_n hx hb d_S_answerGet_116 rfl (hl.at 1 rfl) ?_
      obtain ⟨t38, h⟩ := h
      refine z_getR hx hb hW in_5 hown hK hM t38 (by decide) rfl 1 (by decide) rfl (hW _ k_87) rfl d_S_answerGet_117 ?_
      refine lv_aload hx hb d_S_answerGet_120 (hl.at 0 rfl) ?_
      refine lv_iconst (v := (2 : Int32)) hx hb d_S_answerGet_122 (by decide) ?_
      refine lv_aload_n hx hb d_S_answerGet_123 rfl (hl.at 3 rfl) ?_
      have t39 : zT M36 a2 = some (4, 4) := by rw [e37]; exact t34
      refine z_getI hx hb hW in_4 hown hK hM t39 (by decide) rfl 2 (by decide) rfl (hW _ k_37) rfl d_S_answerGet_124 ?_
      obtain ⟨b40, hb41, h⟩ := h
      rw [hb41]
      obtain ⟨t42, h⟩ := h
      refine z_ctv (mc := 0) (ms := 0) (va_runV (As := [.ref v0, .int (2 : Int32), .int (zI M36 a2 2)]) (rest := []) ⟨hx, hb, hml, hown, hW⟩ (c_T_putDown l ca D M36 H.size b40 v0 (2 : Int32) (zI M36 a2 2) _) (cw_T_putDown hW k_377 ⟨by decide, by decide⟩) (zPre_V hK hN hM h t42 (by decide) rfl) rfl rfl hl.1.1 rfl (lv_room (Nat.le_of_ble_eq_true rfl)) d_S_answerGet_127 ⟨by decide, by decide⟩) hM hS hA (fun M43 H locs h hM hS => ?_)
      refine lv_aload hx hb d_S_answerGet_130 (hl.at 0 rfl) ?_
      refine W.widen (k := 2) (n := 13) (by decide) (by decide) ?_
      rw [← hQ]
      exact z_aret (v := (some v0)) hx hb hr hlk hK hM hS h d_S_answerGet_132
  have b_start : ∀ (M : zM) (H : Heap) (locs : List Loc) (ls : Array Slot) (a0 : Nat) (a1 : Nat) (a2 : Nat), zL ls 5 [(0, .ref a0), (1, .ref a1), (2, .ref a2)] → zW ca D zcl A M H → va_S A s.heap H locs → w_S_answerGet M a0 a1 a2 post → W p l e rm_S_answerGet s m args below meth c H locs 0 0 Q (F0 m 0 ls []) := by
    intro M H locs ls a0 a1 a2 hl hM hS h
    unfold w_S_answerGet at h
    refine lv_aload_n hx hb d_S_answerGet_0 rfl (hl.at 2 rfl) ?_
    obtain ⟨t1, h⟩ := h
    refine z_getI hx hb hW in_4 hown hK hM t1 (by decide) rfl 0 (by decide) rfl (hW _ k_33) rfl d_S_answerGet_1 ?_
    refine lv_if_ne (tgt := 18) hx hb d_S_answerGet_4 rfl (fun c2 => ?_) (fun c2 => ?_)
    · replace h := h.2 c2
      refine lv_aload_n hx hb d_S_answerGet_18 rfl (hl.at 1 rfl) ?_
      obtain ⟨t3, h⟩ := h
      refine z_getI hx hb hW in_3 hown hK hM t3 (by decide) rfl 5 (by decide) rfl (hW _ k_256) rfl d_S_answerGet_19 ?_
      refine lv_aload_n hx hb d_S_answerGet_22 rfl (hl.at 2 rfl) ?_
      refine z_getI hx hb hW in_4 hown hK hM t1 (by decide) rfl 1 (by decide) rfl (hW _ k_36) rfl d_S_answerGet_23 ?_
      refine lv_icmp_ne (tgt := 33) hx hb d_S_answerGet_26 rfl (fun c4 => ?_) (fun c4 => ?_)
      · replace h := h.2 c4
        refine lv_iconst (v := (0 : Int32)) hx hb d_S_answerGet_33 (by decide) ?_
        refine z_istore_n hx hb d_S_answerGet_34 rfl hl (by decide) rfl (fun ls hl => ?_)
        have hl : zL ls 5 [(3, .int (0 : Int32)), (0, .ref a0), (1, .ref a1), (2, .ref a2)] := hl
        refine z_new (ci := 0) hx hb hW in_0 ty_0 tyok_0 hown (hW _ k_328) (hW _ k_329) (hW _ k_11) hK hM hS hA (by decide) rfl df_0 (by decide) (by decide) d_S_answerGet_35 (fun q5 H hq6 hM hS => ?_)
        replace h := h q5 hq6
        obtain ⟨M7, e8⟩ : ∃ z, z = znw M q5 (0, 10) := ⟨_, rfl⟩
        replace h := h M7 e8
        rw [← e8] at hM
        have t9 : zT M7 q5 = some (0, 10) := by rw [e8, zT_nw, if_pos rfl]
        refine lv_dup hx hb d_S_answerGet_38 rfl ?_
        refine lv_iload_n hx hb d_S_answerGet_39 rfl (hl.at 0 rfl) ?_
        refine lv_if_eq (tgt := 49) hx hb d_S_answerGet_40 rfl (fun c10 => ?_) (fun c10 => ?_)
        · replace h := h.1 c10
          refine lv_sipush (v := (200 : Int32)) hx hb d_S_answerGet_49 (by decide) ?_
          exact b_52 M7 H locs ls a0 a1 a2 (0 : Int32) q5 q5 (200 : Int32) (hl.sub [1, 2, 3, 0] rfl) hM hS h
        · replace h := h.2 c10
          refine lv_sipush (v := (304 : Int32)) hx hb d_S_answerGet_43 (by decide) ?_
          refine lv_goto (tgt := 52) hx hb d_S_answerGet_46 rfl ?_
          exact b_52 M7 H locs ls a0 a1 a2 (0 : Int32) q5 q5 (304 : Int32) (hl.sub [1, 2, 3, 0] rfl) hM hS h
      · replace h := h.1 c4
        refine lv_iconst (v := (1 : Int32)) hx hb d_S_answerGet_29 (by decide) ?_
        refine lv_goto (tgt := 34) hx hb d_S_answerGet_30 rfl ?_
        refine z_istore_n hx hb d_S_answerGet_34 rfl hl (by decide) rfl (fun ls hl => ?_)
        have hl : zL ls 5 [(3, .int (1 : Int32)), (0, .ref a0), (1, .ref a1), (2, .ref a2)] := hl
        refine z_new (ci := 0) hx hb hW in_0 ty_0 tyok_0 hown (hW _ k_328) (hW _ k_329) (hW _ k_11) hK hM hS hA (by decide) rfl df_0 (by decide) (by decide) d_S_answerGet_35 (fun q44 H hq45 hM hS => ?_)
        replace h := h q44 hq45
        obtain ⟨M46, e47⟩ : ∃ z, z = znw M q44 (0, 10) := ⟨_, rfl⟩
        replace h := h M46 e47
        rw [← e47] at hM
        have t48 : zT M46 q44 = some (0, 10) := by rw [e47, zT_nw, if_pos rfl]
        refine lv_dup hx hb d_S_answerGet_38 rfl ?_
        refine lv_iload_n hx hb d_S_answerGet_39 rfl (hl.at 0 rfl) ?_
        refine lv_if_eq (tgt := 49) hx hb d_S_answerGet_40 rfl (fun c49 => ?_) (fun c49 => ?_)
        · replace h := h.1 c49
          refine lv_sipush (v := (200 : Int32)) hx hb d_S_answerGet_49 (by decide) ?_
          exact b_52 M46 H locs ls a0 a1 a2 (1 : Int32) q44 q44 (200 : Int32) (hl.sub [1, 2, 3, 0] rfl) hM hS h
        · replace h := h.2 c49
          refine lv_sipush (v := (304 : Int32)) hx hb d_S_answerGet_43 (by decide) ?_
          refine lv_goto (tgt := 52) hx hb d_S_answerGet_46 rfl ?_
          exact b_52 M46 H locs ls a0 a1 a2 (1 : Int32) q44 q44 (304 : Int32) (hl.sub [1, 2, 3, 0] rfl) hM hS h
    · replace h := h.1 c2
      refine z_new (ci := 0) hx hb hW in_0 ty_0 tyok_0 hown (hW _ k_328) (hW _ k_329) (hW _ k_11) hK hM hS hA (by decide) rfl df_0 (by decide) (by decide) d_S_answerGet_7 (fun q50 H hq51 hM hS => ?_)
      replace h := h q50 hq51
      obtain ⟨M52, e53⟩ : ∃ z, z = znw M q50 (0, 10) := ⟨_, rfl⟩
      replace h := h M52 e53
      rw [← e53] at hM
      have t54 : zT M52 q50 = some (0, 10) := by rw [e53, zT_nw, if_pos rfl]
      refine lv_dup hx hb d_S_answerGet_10 rfl ?_
      refine lv_sipush (v := (404 : Int32)) hx hb d_S_answerGet_11 (by decide) ?_
      refine z_ctv (mc := 1) (ms := 3) (va_runI (As := [.int (404 : Int32)]) (rest := [.ref q50]) ⟨hx, hb, hml, hown, hW⟩ (c_A_init l ca D M52 H.size q50 (404 : Int32) _) (cw_A_init hW k_330 ⟨by decide, by decide⟩) (zPre_S hK hN hM h) rfl rfl hl.1.1 rfl (lv_room (Nat.le_of_ble_eq_true rfl)) d_S_answerGet_14 ⟨by decide, by decide⟩) hM hS hA (fun M55 H locs h hM hS => ?_)
      refine W.widen (k := 2) (n := 13) (by decide) (by decide) ?_
      rw [← hQ]
      exact z_aret (v := (some q50)) hx hb hr hlk hK hM hS h d_S_answerGet_17
  exact b_start M s.heap [] ls a0 a1 a2 hl hM hS h
set_option maxHeartbeats 4000000 in
set_option maxRecDepth 100000 in
theorem c_T_keepIfReferring (l : Launch) (ca : Nat → ClassId) (D : va_G) (M : zM) (sz : Nat) (a0 : Nat) (a1 : Nat) (post : zM → Prop) : Met l y_T_keepIfReferring (Cond.code y_T_keepIfReferring prog_9_method_6_code 2 none :: zws) rm_T_keepIfReferring (zPre ca D zcl (ztys ca) [.ref a0, .ref a1] M sz (w_T_keepIfReferring M a0 a1 post)) (va_Qv post (zB ca D zcl (ztys ca) (zA M sz)) (zA M sz)) 0 0 (zA M sz) := by
  refine z_met (cc := prog_9_method_6_code) (maxL := 2) (ret := none) (plainFor_of_name (by decide)) rfl (by simp [Value.category]) (Nat.le_of_ble_eq_true rfl) ?_
  intro p e s m args below meth c ls A hx hb hr hlk hml hts hown hnm hK hN hl hA0 hM hS hA h
  rw [← hA0]
  have hW : ∀ w ∈ zws, w.before args s = true := fun w hw => hts w (List.mem_cons_of_mem _ hw)
  have hl : zL ls 2 [(0, .ref a0), (1, .ref a1)] := hl
  generalize hQ : MQ below (va_Qv post (zB ca D zcl (ztys ca) A) A) args s 0 0 A = Q
  have b_start : ∀ (M : zM) (H : Heap) (locs : List Loc) (ls : Array Slot) (a0 : Nat) (a1 : Nat), zL ls 2 [(0, .ref a0), (1, .ref a1)] → zW ca D zcl A M H → va_S A s.heap H locs → w_T_keepIfReferring M a0 a1 post → W p l e rm_T_keepIfReferring s m args below meth c H locs 0 0 Q (F0 m 0 ls []) := by
    intro M H locs ls a0 a1 hl hM hS h
    unfold w_T_keepIfReferring at h
    refine lv_aload_n hx hb d_T_keepIfReferring_0 rfl (hl.at 1 rfl) ?_
    obtain ⟨t1, h⟩ := h
    refine z_getI hx hb hW in_0 hown hK hM t1 (by decide) rfl 2 (by decide) rfl (hW _ k_339) rfl d_T_keepIfReferring_1 ?_
    refine lv_if_eq (tgt := 19) hx hb d_T_keepIfReferring_4 rfl (fun c2 => ?_) (fun c2 => ?_)
    · replace h := h.1 c2
      rw [← hQ]
      exact z_vret hx hb hr hlk hK hM hS h d_T_keepIfReferring_19
    · replace h := h.2 c2
      refine lv_aload_n hx hb d_T_keepIfReferring_7 rfl (hl.at 0 rfl) ?_
      obtain ⟨t3, h⟩ := h
      refine z_getI hx hb hW in_7 hown hK hM t3 (by decide) rfl 3 (by decide) rfl (hW _ k_59) rfl d_T_keepIfReferring_8 ?_
      refine lv_aload_n hx hb d_T_keepIfReferring_11 rfl (hl.at 0 rfl) ?_
      refine z_getR hx hb hW in_7 hown hK hM t3 (by decide) rfl 2 (by decide) rfl (hW _ k_58) rfl d_T_keepIfReferring_12 ?_
      obtain ⟨b4, hb5, h⟩ := h
      rw [hb5]
      obtain ⟨n7, t6, h⟩ := h
      refine z_alen hx hb hK hM t6 (by decide) 3 rfl d_T_keepIfReferring_15 ?_
      refine lv_icmp_lt (tgt := 20) hx hb d_T_keepIfReferring_16 rfl (fun c8 => ?_) (fun c8 => ?_)
      · replace h := h.1 c8
        refine lv_aload_n hx hb d_T_keepIfReferring_20 rfl (hl.at 1 rfl) ?_
        refine lv_iconst (v := (1 : Int32)) hx hb d_T_keepIfReferring_21 (by decide) ?_
        refine z_putI hx hb hW in_0 ty_0 tyok_0 nm_0 hown hK hM hS t1 (by decide) rfl 9 (by decide) rfl (hW _ k_353) rfl (Or.inl rfl) rfl rfl d_T_keepIfReferring_22 (fun H locs hM hS => ?_)
        obtain ⟨M9, e10⟩ : ∃ z, z = zwI M a1 9 (1 : Int32) := ⟨_, rfl⟩
        replace h := h M9 e10
        rw [← e10] at hM
        refine lv_aload_n hx hb d_T_keepIfReferring_25 rfl (hl.at 0 rfl) ?_
        have t11 : zT M9 a0 = some (7, 8) := by rw [e10]; exact t3
        refine z_getR hx hb hW in_7 hown hK hM t11 (by decide) rfl 2 (by decide) rfl (hW _ k_58) rfl d_T_keepIfReferring_26 ?_
        refine lv_aload_n hx hb d_T_keepIfReferring_29 rfl (hl.at 0 rfl) ?_
        refine z_getI hx hb hW in_7 hown hK hM t11 (by decide) rfl 3 (by decide) rfl (hW _ k_59) rfl d_T_keepIfReferring_30 ?_
        refine lv_aload_n hx hb d_T_keepIfReferring_33 rfl (hl.at 1 rfl) ?_
        obtain ⟨b12, hb13, h⟩ := h
        rw [hb13]
        obtain ⟨n15, t14, h⟩ := h
        have t16 : zT M9 a1 = some (0, 10) := by rw [e10]; exact t1
        obtain ⟨i17, h⟩ := h
        refine z_aast hx hb hK hM hS t14 (by decide) 3 rfl t16 (by decide) rfl i17 d_T_keepIfReferring_34 (fun H locs hM hS => ?_)
        obtain ⟨M18, e19⟩ : ∃ z, z = zwR M9 b12 (zI M9 a0 3).toNatClampNeg (some a1) := ⟨_, rfl⟩
        replace h := h M18 e19
        rw [← e19] at hM
        refine lv_aload_n hx hb d_T_keepIfReferring_35 rfl (hl.at 0 rfl) ?_
        refine lv_dup hx hb d_T_keepIfReferring_36 rfl ?_
        have t20 : zT M18 a0 = some (7, 8) := by rw [e19]; exact t11
        refine z_getI hx hb hW in_7 hown hK hM t20 (by decide) rfl 3 (by decide) rfl (hW _ k_59) rfl d_T_keepIfReferring_37 ?_
        refine lv_iconst (v := (1 : Int32)) hx hb d_T_keepIfReferring_40 (by decide) ?_
        refine lv_iadd hx hb d_T_keepIfReferring_41 ?_
        refine z_putI hx hb hW in_7 ty_7 tyok_7 nm_7 hown hK hM hS t20 (by decide) rfl 3 (by decide) rfl (hW _ k_59) rfl (Or.inl rfl) rfl rfl d_T_keepIfReferring_42 (fun H locs hM hS => ?_)
        obtain ⟨M21, e22⟩ : ∃ z, z = zwI M18 a0 3 ((zI M18 a0 3) + (1 : Int32)) := ⟨_, rfl⟩
        replace h := h M21 e22
        rw [← e22] at hM
        rw [← hQ]
        exact z_vret hx hb hr hlk hK hM hS h d_T_keepIfReferring_45
      · replace h := h.2 c8
        rw [← hQ]
        exact z_vret hx hb hr hlk hK hM hS h d_T_keepIfReferring_19
  exact b_start M s.heap [] ls a0 a1 hl hM hS h
set_option maxHeartbeats 4000000 in
set_option maxRecDepth 100000 in
theorem c_S_takeRequest (l : Launch) (ca : Nat → ClassId) (D : va_G) (M : zM) (sz : Nat) (a0 : Nat) (a1 : Nat) (post : Int32 → zM → Prop) : Met l y_S_takeRequest (Cond.code y_S_takeRequest prog_7_method_4_code 4 (some .int) :: zws) rm_S_takeRequest (zPre ca D zcl (ztys ca) [.ref a0, .ref a1] M sz (w_S_takeRequest M a0 a1 post)) (va_Qi post (zB ca D zcl (ztys ca) (zA M sz)) (zA M sz)) 2 13 (zA M sz) := by
  refine z_met (cc := prog_7_method_4_code) (maxL := 4) (ret := (some .int)) (plainFor_of_name (by decide)) rfl (by simp [Value.category]) (Nat.le_of_ble_eq_true rfl) ?_
  intro p e s m args below meth c ls A hx hb hr hlk hml hts hown hnm hK hN hl hA0 hM hS hA h
  rw [← hA0]
  have hW : ∀ w ∈ zws, w.before args s = true := fun w hw => hts w (List.mem_cons_of_mem _ hw)
  have hl : zL ls 4 [(0, .ref a0), (1, .ref a1)] := hl
  generalize hQ : MQ below (va_Qi post (zB ca D zcl (ztys ca) A) A) args s 2 13 A = Q
  have b_72 : ∀ (M : zM) (H : Heap) (locs : List Loc) (ls : Array Slot) (a0 : Nat) (a1 : Nat) (a2 : Nat) (w0 : Option Nat), zL ls 4 [(0, .ref a0), (1, .ref a1), (2, .ref a2)] → zW ca D zcl A M H → va_S A s.heap H locs → w_S_takeRequest_72 post M a0 a1 a2 w0 → W p l e rm_S_takeRequest s m args below meth c H locs 2 13 Q (F0 m 72 ls [va_rf w0]) := by
    intro M H locs ls a0 a1 a2 w0 hl hM hS h
    unfold w_S_takeRequest_72 at h
    refine z_astore_n (x := w0) hx hb d_S_takeRequest_72 rfl hl (by decide) rfl (fun ls hl => ?_)
    have hl : zL ls 4 [(3, va_rf w0), (0, .ref a0), (1, .ref a1), (2, .ref a2)] := hl
    refine lv_aload_n hx hb d_S_takeRequest_73 rfl (hl.at 1 rfl) ?_
    obtain ⟨t17, h⟩ := h
    refine z_getR hx hb hW in_5 hown hK hM t17 (by decide) rfl 1 (by decide) rfl (hW _ k_87) rfl d_S_takeRequest_74 ?_
    refine z_aload_n hx hb d_S_takeRequest_77 rfl (hl.at 0 rfl) ?_
    obtain ⟨b18, hb19, h⟩ := h
    subst hb19
    obtain ⟨b20, hb21, h⟩ := h
    rw [hb21]
    obtain ⟨t22, h⟩ := h
    refine z_ctv (mc := 0) (ms := 0) (va_runV (As := [.ref b18]) (rest := []) ⟨hx, hb, hml, hown, hW⟩ (c_T_keepIfReferring l ca D M H.size b20 b18 _) (cw_T_keepIfReferring hW k_440 ⟨by decide, by decide⟩) (zPre_V hK hN hM h t22 (by decide) rfl) rfl rfl hl.1.1 rfl (lv_room (Nat.le_of_ble_eq_true rfl)) d_S_takeRequest_78 ⟨by decide, by decide⟩) hM hS hA (fun M23 H locs h hM hS => ?_)
    refine lv_aload_n hx hb d_S_takeRequest_81 rfl (hl.at 2 rfl) ?_
    refine lv_aload_n hx hb d_S_takeRequest_82 rfl (hl.at 0 rfl) ?_
    obtain ⟨t24, h⟩ := h
    refine z_putR (v := some b18) hx hb hW in_3 ty_3 tyok_3 nm_3 hown hK hM hS t24 (by decide) rfl 11 (by decide) rfl (hW _ k_265) rfl (Or.inl rfl) rfl rfl d_S_takeRequest_83 (fun H locs hM hS => ?_)
    obtain ⟨M25, e26⟩ : ∃ z, z = zwR M23 a1 11 (some b18) := ⟨_, rfl⟩
    replace h := h M25 e26
    rw [← e26] at hM
    refine lv_aload_n hx hb d_S_takeRequest_86 rfl (hl.at 0 rfl) ?_
    obtain ⟨t27, h⟩ := h
    refine z_getI hx hb hW in_0 hown hK hM t27 (by decide) rfl 0 (by decide) rfl (hW _ k_335) rfl d_S_takeRequest_87 ?_
    refine W.widen (k := 2) (n := 13) (by decide) (by decide) ?_
    rw [← hQ]
    exact z_iret hx hb hr hlk hK hM hS h d_S_takeRequest_90
  have b_33 : ∀ (M : zM) (H : Heap) (locs : List Loc) (ls : Array Slot) (a0 : Nat) (a1 : Nat) (a2 : Nat), zL ls 4 [(0, .ref a0), (1, .ref a1), (2, .ref a2)] → zW ca D zcl A M H → va_S A s.heap H locs → w_S_takeRequest_33 post M a0 a1 a2 → W p l e rm_S_takeRequest s m args below meth c H locs 0 0 Q (F0 m 33 ls []) := by
    intro M H locs ls a0 a1 a2 hl hM hS h
    unfold w_S_takeRequest_33 at h
    refine lv_aload_n hx hb d_S_takeRequest_33 rfl (hl.at 0 rfl) ?_
    refine lv_aload_n hx hb d_S_takeRequest_34 rfl (hl.at 0 rfl) ?_
    obtain ⟨t8, h⟩ := h
    refine z_getI hx hb hW in_5 hown hK hM t8 (by decide) rfl 3 (by decide) rfl (hW _ k_90) rfl d_S_takeRequest_35 ?_
    refine lv_aload_n hx hb d_S_takeRequest_38 rfl (hl.at 1 rfl) ?_
    obtain ⟨t9, h⟩ := h
    refine z_getI hx hb hW in_3 hown hK hM t9 (by decide) rfl 0 (by decide) rfl (hW _ k_241) rfl d_S_takeRequest_39 ?_
    refine lv_iconst (v := (1 : Int32)) hx hb d_S_takeRequest_42 (by decide) ?_
    refine lv_iadd hx hb d_S_takeRequest_43 ?_
    refine va_mmax hx hb (by rw [hml]; exact hl.1.1.symm) hown (hW _ k_321) (hW _ k_322) (hW _ k_10) (hW _ k_323) (Nat.le_of_ble_eq_true rfl) (Nat.le_of_ble_eq_true rfl) (by decide) (by decide) d_S_takeRequest_44 ?_
    refine z_putI hx hb hW in_5 ty_5 tyok_5 nm_5 hown hK hM hS t8 (by decide) rfl 3 (by decide) rfl (hW _ k_90) rfl (Or.inl rfl) rfl rfl d_S_takeRequest_47 (fun H locs hM hS => ?_)
    obtain ⟨M10, e11⟩ : ∃ z, z = zwI M a0 3 (if zI M a0 3 < (zI M a1 0) + (1 : Int32) then (zI M a1 0) + (1 : Int32) else zI M a0 3) := ⟨_, rfl⟩
    replace h := h M10 e11
    rw [← e11] at hM
    refine lv_aload_n hx hb d_S_takeRequest_50 rfl (hl.at 1 rfl) ?_
    have t12 : zT M10 a1 = some (3, 12) := by rw [e11]; exact t9
    refine z_getI hx hb hW in_3 hown hK hM t12 (by decide) rfl 2 (by decide) rfl (hW _ k_249) rfl d_S_takeRequest_51 ?_
    refine lv_if_eq (tgt := 66) hx hb d_S_takeRequest_54 rfl (fun c13 => ?_) (fun c13 => ?_)
    · replace h := h.1 c13
      refine lv_aload_n hx hb d_S_takeRequest_66 rfl (hl.at 0 rfl) ?_
      refine lv_aload_n hx hb d_S_takeRequest_67 rfl (hl.at 1 rfl) ?_
      refine lv_aload_n hx hb d_S_takeRequest_68 rfl (hl.at 2 rfl) ?_
      have t14 : zT M10 a0 = some (5, 6) := by rw [e11]; exact t8
      refine z_ctq (mc := 2) (ms := 13) (va_runV (As := [.ref a1, .ref a2]) (rest := []) ⟨hx, hb, hml, hown, hW⟩ (c_S_answerGet l ca D M10 H.size a0 a1 a2 _) (cw_S_answerGet hW k_436 ⟨by decide, by decide⟩) (zPre_V hK hN hM h t14 (by decide) rfl) rfl rfl hl.1.1 rfl (lv_room (Nat.le_of_ble_eq_true rfl)) d_S_takeRequest_69 ⟨by decide, by decide⟩) hM hS hA (fun r15 M16 H locs h hM hS => ?_)
      refine W.widen (k := 2) (n := 13) (by decide) (by decide) ?_
      exact b_72 M16 H locs ls a0 a1 a2 r15 (hl.sub [0, 1, 2] rfl) hM hS h
    · replace h := h.2 c13
      refine lv_aload_n hx hb d_S_takeRequest_57 rfl (hl.at 0 rfl) ?_
      refine lv_aload_n hx hb d_S_takeRequest_58 rfl (hl.at 1 rfl) ?_
      refine lv_aload_n hx hb d_S_takeRequest_59 rfl (hl.at 2 rfl) ?_
      have t28 : zT M10 a0 = some (5, 6) := by rw [e11]; exact t8
      refine z_ctq (mc := 2) (ms := 13) (va_runV (As := [.ref a1, .ref a2]) (rest := []) ⟨hx, hb, hml, hown, hW⟩ (c_S_answerPut l ca D M10 H.size a0 a1 a2 _) (cw_S_answerPut hW k_324 ⟨by decide, by decide⟩) (zPre_V hK hN hM h t28 (by decide) rfl) rfl rfl hl.1.1 rfl (lv_room (Nat.le_of_ble_eq_true rfl)) d_S_takeRequest_60 ⟨by decide, by decide⟩) hM hS hA (fun r29 M30 H locs h hM hS => ?_)
      refine lv_goto (tgt := 72) hx hb d_S_takeRequest_63 rfl ?_
      refine W.widen (k := 2) (n := 13) (by decide) (by decide) ?_
      exact b_72 M30 H locs ls a0 a1 a2 r29 (hl.sub [0, 1, 2] rfl) hM hS h
  have b_start : ∀ (M : zM) (H : Heap) (locs : List Loc) (ls : Array Slot) (a0 : Nat) (a1 : Nat), zL ls 4 [(0, .ref a0), (1, .ref a1)] → zW ca D zcl A M H → va_S A s.heap H locs → w_S_takeRequest M a0 a1 post → W p l e rm_S_takeRequest s m args below meth c H locs 0 0 Q (F0 m 0 ls []) := by
    intro M H locs ls a0 a1 hl hM hS h
    unfold w_S_takeRequest at h
    refine lv_aload_n hx hb d_S_takeRequest_0 rfl (hl.at 0 rfl) ?_
    refine lv_aload_n hx hb d_S_takeRequest_1 rfl (hl.at 1 rfl) ?_
    obtain ⟨t1, h⟩ := h
    refine z_getI hx hb hW in_3 hown hK hM t1 (by decide) rfl 1 (by decide) rfl (hW _ k_245) rfl d_S_takeRequest_2 ?_
    obtain ⟨t2, h⟩ := h
    refine z_ctq (mc := 0) (ms := 0) (va_runV (As := [.int (zI M a1 1)]) (rest := []) ⟨hx, hb, hml, hown, hW⟩ (c_S_resourceAt l ca D M H.size a0 (zI M a1 1) _) (cw_S_resourceAt hW k_320 ⟨by decide, by decide⟩) (zPre_V hK hN hM h t2 (by decide) rfl) rfl rfl hl.1.1 rfl (lv_room (Nat.le_of_ble_eq_true rfl)) d_S_takeRequest_5 ⟨by decide, by decide⟩) hM hS hA (fun r3 M4 H locs h hM hS => ?_)
    refine z_astore_n (x := r3) hx hb d_S_takeRequest_8 rfl hl (by decide) rfl (fun ls hl => ?_)
    have hl : zL ls 4 [(2, va_rf r3), (0, .ref a0), (1, .ref a1)] := hl
    refine z_aload_n hx hb d_S_takeRequest_9 rfl (hl.at 0 rfl) ?_
    cases r3 with
    | none =>
      replace h := h.1 rfl
      refine lv_ifnullN (tgt := 31) hx hb d_S_takeRequest_10 rfl ?_
      refine lv_iconst (v := (0 : Int32)) hx hb d_S_takeRequest_31 (by decide) ?_
      refine W.widen (k := 2) (n := 13) (by decide) (by decide) ?_
      rw [← hQ]
      exact z_iret hx hb hr hlk hK hM hS h d_S_takeRequest_32
    | some b5 =>
      replace h := h.2 b5 rfl
      refine lv_ifnull hx hb d_S_takeRequest_10 ?_
      refine lv_aload_n hx hb d_S_takeRequest_13 rfl (hl.at 1 rfl) ?_
      obtain ⟨t6, h⟩ := h
      refine z_getI hx hb hW in_5 hown hK hM t6 (by decide) rfl 4 (by decide) rfl (hW _ k_91) rfl d_S_takeRequest_14 ?_
      refine lv_if_eq (tgt := 33) hx hb d_S_takeRequest_17 rfl (fun c7 => ?_) (fun c7 => ?_)
      · replace h := h.1 c7
        refine W.widen (k := 0) (n := 0) (by decide) (by decide) ?_
        exact b_33 M4 H locs ls a0 a1 b5 (hl.sub [1, 2, 0] rfl) hM hS h
      · replace h := h.2 c7
        refine lv_aload_n hx hb d_S_takeRequest_20 rfl (hl.at 2 rfl) ?_
        obtain ⟨t31, h⟩ := h
        refine z_getI hx hb hW in_3 hown hK hM t31 (by decide) rfl 0 (by decide) rfl (hW _ k_241) rfl d_S_takeRequest_21 ?_
        refine lv_aload_n hx hb d_S_takeRequest_24 rfl (hl.at 1 rfl) ?_
        refine z_getI hx hb hW in_5 hown hK hM t6 (by decide) rfl 5 (by decide) rfl (hW _ k_93) rfl d_S_takeRequest_25 ?_
        refine lv_icmp_lt (tgt := 33) hx hb d_S_takeRequest_28 rfl (fun c32 => ?_) (fun c32 => ?_)
        · replace h := h.1 c32
          refine W.widen (k := 0) (n := 0) (by decide) (by decide) ?_
          exact b_33 M4 H locs ls a0 a1 b5 (hl.sub [1, 2, 0] rfl) hM hS h
        · replace h := h.2 c32
          refine lv_iconst (v := (0 : Int32)) hx hb d_S_takeRequest_31 (by decide) ?_
          refine W.widen (k := 2) (n := 13) (by decide) (by decide) ?_
          rw [← hQ]
          exact z_iret hx hb hr hlk hK hM hS h d_S_takeRequest_32
  exact b_start M s.heap [] ls a0 a1 hl hM hS h
set_option maxHeartbeats 4000000 in
set_option maxRecDepth 100000 in
theorem c_S_announceLimit (l : Launch) (ca : Nat → ClassId) (D : va_G) (M : zM) (sz : Nat) (a0 : Nat) (post : zM → Prop) : Met l y_S_announceLimit (Cond.code y_S_announceLimit prog_7_method_5_code 1 none :: zws) rm_S_announceLimit (zPre ca D zcl (ztys ca) [.ref a0] M sz (w_S_announceLimit M a0 post)) (va_Qv post (zB ca D zcl (ztys ca) (zA M sz)) (zA M sz)) 0 0 (zA M sz) := by
  refine z_met (cc := prog_7_method_5_code) (maxL := 1) (ret := none) (plainFor_of_name (by decide)) rfl (by simp [Value.category]) (Nat.le_of_ble_eq_true rfl) ?_
  intro p e s m args below meth c ls A hx hb hr hlk hml hts hown hnm hK hN hl hA0 hM hS hA h
  rw [← hA0]
  have hW : ∀ w ∈ zws, w.before args s = true := fun w hw => hts w (List.mem_cons_of_mem _ hw)
  have hl : zL ls 1 [(0, .ref a0)] := hl
  generalize hQ : MQ below (va_Qv post (zB ca D zcl (ztys ca) A) A) args s 0 0 A = Q
  have b_start : ∀ (M : zM) (H : Heap) (locs : List Loc) (ls : Array Slot) (a0 : Nat), zL ls 1 [(0, .ref a0)] → zW ca D zcl A M H → va_S A s.heap H locs → w_S_announceLimit M a0 post → W p l e rm_S_announceLimit s m args below meth c H locs 0 0 Q (F0 m 0 ls []) := by
    intro M H locs ls a0 hl hM hS h
    unfold w_S_announceLimit at h
    refine lv_aload_n hx hb d_S_announceLimit_0 rfl (hl.at 0 rfl) ?_
    obtain ⟨t1, h⟩ := h
    refine z_getI hx hb hW in_5 hown hK hM t1 (by decide) rfl 4 (by decide) rfl (hW _ k_91) rfl d_S_announceLimit_1 ?_
    refine lv_if_ne (tgt := 20) hx hb d_S_announceLimit_4 rfl (fun c2 => ?_) (fun c2 => ?_)
    · replace h := h.2 c2
      rw [← hQ]
      exact z_vret hx hb hr hlk hK hM hS h d_S_announceLimit_20
    · replace h := h.1 c2
      refine lv_aload_n hx hb d_S_announceLimit_7 rfl (hl.at 0 rfl) ?_
      refine lv_iconst (v := (1 : Int32)) hx hb d_S_announceLimit_8 (by decide) ?_
      refine z_putI hx hb hW in_5 ty_5 tyok_5 nm_5 hown hK hM hS t1 (by decide) rfl 4 (by decide) rfl (hW _ k_91) rfl (Or.inl rfl) rfl rfl d_S_announceLimit_9 (fun H locs hM hS => ?_)
      obtain ⟨M3, e4⟩ : ∃ z, z = zwI M a0 4 (1 : Int32) := ⟨_, rfl⟩
      replace h := h M3 e4
      rw [← e4] at hM
      refine lv_aload_n hx hb d_S_announceLimit_12 rfl (hl.at 0 rfl) ?_
      refine lv_aload_n hx hb d_S_announceLimit_13 rfl (hl.at 0 rfl) ?_
      have t5 : zT M3 a0 = some (5, 6) := by rw [e4]; exact t1
      refine z_getI hx hb hW in_5 hown hK hM t5 (by decide) rfl 3 (by decide) rfl (hW _ k_90) rfl d_S_announceLimit_14 ?_
      refine z_putI hx hb hW in_5 ty_5 tyok_5 nm_5 hown hK hM hS t5 (by decide) rfl 5 (by decide) rfl (hW _ k_93) rfl (Or.inl rfl) rfl rfl d_S_announceLimit_17 (fun H locs hM hS => ?_)
      obtain ⟨M6, e7⟩ : ∃ z, z = zwI M3 a0 5 (zI M3 a0 3) := ⟨_, rfl⟩
      replace h := h M6 e7
      rw [← e7] at hM
      rw [← hQ]
      exact z_vret hx hb hr hlk hK hM hS h d_S_announceLimit_20
  exact b_start M s.heap [] ls a0 hl hM hS h
set_option maxHeartbeats 4000000 in
set_option maxRecDepth 100000 in
theorem c_K_freshFor (l : Launch) (ca : Nat → ClassId) (D : va_G) (M : zM) (sz : Nat) (a0 : Nat) (x1 : Int32) (post : Int32 → zM → Prop) : Met l y_K_freshFor (Cond.code y_K_freshFor prog_8_method_3_code 2 (some .int) :: zws) rm_K_freshFor (zPre ca D zcl (ztys ca) [.ref a0, .int x1] M sz (w_K_freshFor M a0 x1 post)) (va_Qi post (zB ca D zcl (ztys ca) (zA M sz)) (zA M sz)) 0 0 (zA M sz) := by
  refine z_met (cc := prog_8_method_3_code) (maxL := 2) (ret := (some .int)) (plainFor_of_name (by decide)) rfl (by simp [Value.category]) (Nat.le_of_ble_eq_true rfl) ?_
  intro p e s m args below meth c ls A hx hb hr hlk hml hts hown hnm hK hN hl hA0 hM hS hA h
  rw [← hA0]
  have hW : ∀ w ∈ zws, w.before args s = true := fun w hw => hts w (List.mem_cons_of_mem _ hw)
  have hl : zL ls 2 [(0, .ref a0), (1, .int x1)] := hl
  generalize hQ : MQ below (va_Qi post (zB ca D zcl (ztys ca) A) A) args s 0 0 A = Q
  have b_start : ∀ (M : zM) (H : Heap) (locs : List Loc) (ls : Array Slot) (a0 : Nat) (x1 : Int32), zL ls 2 [(0, .ref a0), (1, .int x1)] → zW ca D zcl A M H → va_S A s.heap H locs → w_K_freshFor M a0 x1 post → W p l e rm_K_freshFor s m args below meth c H locs 0 0 Q (F0 m 0 ls []) := by
    intro M H locs ls a0 x1 hl hM hS h
    unfold w_K_freshFor at h
    refine lv_aload_n hx hb d_K_freshFor_0 rfl (hl.at 0 rfl) ?_
    refine lv_iload_n hx hb d_K_freshFor_1 rfl (hl.at 1 rfl) ?_
    obtain ⟨t1, h⟩ := h
    refine z_cti (mc := 0) (ms := 0) (va_runV (As := [.int x1]) (rest := []) ⟨hx, hb, hml, hown, hW⟩ (c_K_isFresh l ca D M H.size a0 x1 _) (cw_K_isFresh hW k_560 ⟨by decide, by decide⟩) (zPre_V hK hN hM h t1 (by decide) rfl) rfl rfl hl.1.1 rfl (lv_room (Nat.le_of_ble_eq_true rfl)) d_K_freshFor_2 ⟨by decide, by decide⟩) hM hS hA (fun r2 M3 H locs h hM hS => ?_)
    refine lv_if_eq (tgt := 22) hx hb d_K_freshFor_5 rfl (fun c4 => ?_) (fun c4 => ?_)
    · replace h := h.1 c4
      refine lv_iconst (v := (0 : Int32)) hx hb d_K_freshFor_22 (by decide) ?_
      refine W.widen (k := 0) (n := 0) (by decide) (by decide) ?_
      rw [← hQ]
      exact z_iret hx hb hr hlk hK hM hS h d_K_freshFor_23
    · replace h := h.2 c4
      refine lv_aload_n hx hb d_K_freshFor_8 rfl (hl.at 0 rfl) ?_
      obtain ⟨t5, h⟩ := h
      refine z_getI hx hb hW in_6 hown hK hM t5 (by decide) rfl 3 (by decide) rfl (hW _ k_128) rfl d_K_freshFor_9 ?_
      refine lv_iload_n hx hb d_K_freshFor_12 rfl (hl.at 1 rfl) ?_
      refine lv_aload_n hx hb d_K_freshFor_13 rfl (hl.at 0 rfl) ?_
      refine z_getI hx hb hW in_6 hown hK hM t5 (by decide) rfl 4 (by decide) rfl (hW _ k_130) rfl d_K_freshFor_14 ?_
      refine lv_isub hx hb d_K_freshFor_17 ?_
      refine lv_isub hx hb d_K_freshFor_18 ?_
      refine lv_goto (tgt := 23) hx hb d_K_freshFor_19 rfl ?_
      refine W.widen (k := 0) (n := 0) (by decide) (by decide) ?_
      rw [← hQ]
      exact z_iret hx hb hr hlk hK hM hS h d_K_freshFor_23
  exact b_start M s.heap [] ls a0 x1 hl hM hS h
set_option maxHeartbeats 4000000 in
set_option maxRecDepth 100000 in
theorem c_T_learn (l : Launch) (ca : Nat → ClassId) (D : va_G) (M : zM) (sz : Nat) (a0 : Nat) (x1 : Int32) (post : zM → Prop) : Met l y_T_learn (Cond.code y_T_learn prog_9_method_7_code 2 none :: zws) rm_T_learn (zPre ca D zcl (ztys ca) [.ref a0, .int x1] M sz (w_T_learn M a0 x1 post)) (va_Qv post (zB ca D zcl (ztys ca) (zA M sz)) (zA M sz)) 0 0 (zA M sz) := by
  refine z_met (cc := prog_9_method_7_code) (maxL := 2) (ret := none) (plainFor_of_name (by decide)) rfl (by simp [Value.category]) (Nat.le_of_ble_eq_true rfl) ?_
  intro p e s m args below meth c ls A hx hb hr hlk hml hts hown hnm hK hN hl hA0 hM hS hA h
  rw [← hA0]
  have hW : ∀ w ∈ zws, w.before args s = true := fun w hw => hts w (List.mem_cons_of_mem _ hw)
  have hl : zL ls 2 [(0, .ref a0), (1, .int x1)] := hl
  generalize hQ : MQ below (va_Qv post (zB ca D zcl (ztys ca) A) A) args s 0 0 A = Q
  have b_start : ∀ (M : zM) (H : Heap) (locs : List Loc) (ls : Array Slot) (a0 : Nat) (x1 : Int32), zL ls 2 [(0, .ref a0), (1, .int x1)] → zW ca D zcl A M H → va_S A s.heap H locs → w_T_learn M a0 x1 post → W p l e rm_T_learn s m args below meth c H locs 0 0 Q (F0 m 0 ls []) := by
    intro M H locs ls a0 x1 hl hM hS h
    unfold w_T_learn at h
    refine lv_aload_n hx hb d_T_learn_0 rfl (hl.at 0 rfl) ?_
    refine lv_aload_n hx hb d_T_learn_1 rfl (hl.at 0 rfl) ?_
    obtain ⟨t1, h⟩ := h
    refine z_getI hx hb hW in_7 hown hK hM t1 (by decide) rfl 5 (by decide) rfl (hW _ k_62) rfl d_T_learn_2 ?_
    refine lv_iload_n hx hb d_T_learn_5 rfl (hl.at 1 rfl) ?_
    refine va_mmax hx hb (by rw [hml]; exact hl.1.1.symm) hown (hW _ k_513) (hW _ k_322) (hW _ k_10) (hW _ k_323) (Nat.le_of_ble_eq_true rfl) (Nat.le_of_ble_eq_true rfl) (by decide) (by decide) d_T_learn_6 ?_
    refine z_putI hx hb hW in_7 ty_7 tyok_7 nm_7 hown hK hM hS t1 (by decide) rfl 5 (by decide) rfl (hW _ k_62) rfl (Or.inl rfl) rfl rfl d_T_learn_9 (fun H locs hM hS => ?_)
    obtain ⟨M2, e3⟩ : ∃ z, z = zwI M a0 5 (if zI M a0 5 < x1 then x1 else zI M a0 5) := ⟨_, rfl⟩
    replace h := h M2 e3
    rw [← e3] at hM
    rw [← hQ]
    exact z_vret hx hb hr hlk hK hM hS h d_T_learn_12
  exact b_start M s.heap [] ls a0 x1 hl hM hS h
set_option maxHeartbeats 4000000 in
set_option maxRecDepth 100000 in
theorem c_X_init (l : Launch) (ca : Nat → ClassId) (D : va_G) (M : zM) (sz : Nat) (a0 : Nat) (post : zM → Prop) : Met l y_X_init (Cond.code y_X_init prog_1_method_1_code 1 none :: zws) rm_X_init (zPre ca D zcl (ztys ca) [.ref a0] M sz (w_X_init M a0 post)) (va_Qv post (zB ca D zcl (ztys ca) (zA M sz)) (zA M sz)) 26 714 (zA M sz) := by
  refine z_met (cc := prog_1_method_1_code) (maxL := 1) (ret := none) (plainFor_of_name (by decide)) rfl (by simp [Value.category]) (Nat.le_of_ble_eq_true rfl) ?_
  intro p e s m args below meth c ls A hx hb hr hlk hml hts hown hnm hK hN hl hA0 hM hS hA h
  rw [← hA0]
  have hW : ∀ w ∈ zws, w.before args s = true := fun w hw => hts w (List.mem_cons_of_mem _ hw)
  have hl : zL ls 1 [(0, .ref a0)] := hl
  generalize hQ : MQ below (va_Qv post (zB ca D zcl (ztys ca) A) A) args s 26 714 A = Q
  have b_start : ∀ (M : zM) (H : Heap) (locs : List Loc) (ls : Array Slot) (a0 : Nat), zL ls 1 [(0, .ref a0)] → zW ca D zcl A M H → va_S A s.heap H locs → w_X_init M a0 post → W p l e rm_X_init s m args below meth c H locs 0 0 Q (F0 m 0 ls []) := by
    intro M H locs ls a0 hl hM hS h
    unfold w_X_init at h
    refine lv_aload_n hx hb d_X_init_0 rfl (hl.at 0 rfl) ?_
    refine W.objInit hx hb hown (hW _ k_17) (hW _ k_18) (hW _ k_19) rfl (by rw [hml]; exact hl.1.1) rfl d_X_init_1 (Nat.le_of_ble_eq_true rfl) (Nat.le_of_ble_eq_true rfl) ?_
    refine W.eq (g2 := F0 m 4 ls []) rfl ?_
    refine lv_aload_n hx hb d_X_init_4 rfl (hl.at 0 rfl) ?_
    refine z_new (ci := 5) hx hb hW in_5 ty_5 tyok_5 hown (hW _ k_20) (hW _ k_21) (hW _ k_2) hK hM hS hA (by decide) rfl df_5 (by decide) (by decide) d_X_init_5 (fun q1 H hq2 hM hS => ?_)
    replace h := h q1 hq2
    obtain ⟨M3, e4⟩ : ∃ z, z = znw M q1 (5, 6) := ⟨_, rfl⟩
    replace h := h M3 e4
    rw [← e4] at hM
    have t5 : zT M3 q1 = some (5, 6) := by rw [e4, zT_nw, if_pos rfl]
    refine lv_dup hx hb d_X_init_8 rfl ?_
    refine z_ctv (mc := 12) (ms := 112) (va_runI (As := []) (rest := [.ref q1, .ref a0]) ⟨hx, hb, hml, hown, hW⟩ (c_S_init l ca D M3 H.size q1 _) (cw_S_init hW k_22 ⟨by decide, by decide⟩) (zPre_S hK hN hM h) rfl rfl hl.1.1 rfl (lv_room (Nat.le_of_ble_eq_true rfl)) d_X_init_9 ⟨by decide, by decide⟩) hM hS hA (fun M6 H locs h hM hS => ?_)
    obtain ⟨t7, h⟩ := h
    refine z_putR (v := some q1) hx hb hW in_8 ty_8 tyok_8 nm_8 hown hK hM hS t7 (by decide) rfl 0 (by decide) rfl (hW _ k_185) rfl (Or.inr ⟨rfl, hnm, rfl⟩) rfl rfl d_X_init_12 (fun H locs hM hS => ?_)
    obtain ⟨M8, e9⟩ : ∃ z, z = zwR M6 a0 0 (some q1) := ⟨_, rfl⟩
    replace h := h M8 e9
    rw [← e9] at hM
    refine lv_aload_n hx hb d_X_init_15 rfl (hl.at 0 rfl) ?_
    refine z_new (ci := 1) hx hb hW in_1 ty_1 tyok_1 hown (hW _ k_108) (hW _ k_109) (hW _ k_5) hK hM hS hA (by decide) rfl df_1 (by decide) (by decide) d_X_init_16 (fun q10 H hq11 hM hS => ?_)
    replace h := h q10 hq11
    obtain ⟨M12, e13⟩ : ∃ z, z = znw M8 q10 (1, 4) := ⟨_, rfl⟩
    replace h := h M12 e13
    rw [← e13] at hM
    have t14 : zT M12 q10 = some (1, 4) := by rw [e13, zT_nw, if_pos rfl]
    refine lv_dup hx hb d_X_init_19 rfl ?_
    refine z_ctv (mc := 8) (ms := 48) (va_runI (As := []) (rest := [.ref q10, .ref a0]) ⟨hx, hb, hml, hown, hW⟩ (c_C_init l ca D M12 H.size q10 _) (cw_C_init hW k_110 ⟨by decide, by decide⟩) (zPre_S hK hN hM h) rfl rfl hl.1.1 rfl (lv_room (Nat.le_of_ble_eq_true rfl)) d_X_init_20 ⟨by decide, by decide⟩) hM hS hA (fun M15 H locs h hM hS => ?_)
    obtain ⟨t16, h⟩ := h
    refine z_putR (v := some q10) hx hb hW in_8 ty_8 tyok_8 nm_8 hown hK hM hS t16 (by decide) rfl 1 (by decide) rfl (hW _ k_186) rfl (Or.inr ⟨rfl, hnm, rfl⟩) rfl rfl d_X_init_23 (fun H locs hM hS => ?_)
    obtain ⟨M17, e18⟩ : ∃ z, z = zwR M15 a0 1 (some q10) := ⟨_, rfl⟩
    replace h := h M17 e18
    rw [← e18] at hM
    refine lv_aload_n hx hb d_X_init_26 rfl (hl.at 0 rfl) ?_
    refine z_new (ci := 2) hx hb hW in_2 ty_2 tyok_2 hown (hW _ k_164) (hW _ k_165) (hW _ k_7) hK hM hS hA (by decide) rfl df_2 (by decide) (by decide) d_X_init_27 (fun q19 H hq20 hM hS => ?_)
    replace h := h q19 hq20
    obtain ⟨M21, e22⟩ : ∃ z, z = znw M17 q19 (2, 4) := ⟨_, rfl⟩
    replace h := h M21 e22
    rw [← e22] at hM
    have t23 : zT M21 q19 = some (2, 4) := by rw [e22, zT_nw, if_pos rfl]
    refine lv_dup hx hb d_X_init_30 rfl ?_
    refine z_ctv (mc := 2) (ms := 480) (va_runI (As := []) (rest := [.ref q19, .ref a0]) ⟨hx, hb, hml, hown, hW⟩ (c_F_init l ca D M21 H.size q19 _) (cw_F_init hW k_166 ⟨by decide, by decide⟩) (zPre_S hK hN hM h) rfl rfl hl.1.1 rfl (lv_room (Nat.le_of_ble_eq_true rfl)) d_X_init_31 ⟨by decide, by decide⟩) hM hS hA (fun M24 H locs h hM hS => ?_)
    obtain ⟨t25, h⟩ := h
    refine z_putR (v := some q19) hx hb hW in_8 ty_8 tyok_8 nm_8 hown hK hM hS t25 (by decide) rfl 2 (by decide) rfl (hW _ k_187) rfl (Or.inr ⟨rfl, hnm, rfl⟩) rfl rfl d_X_init_34 (fun H locs hM hS => ?_)
    obtain ⟨M26, e27⟩ : ∃ z, z = zwR M24 a0 2 (some q19) := ⟨_, rfl⟩
    replace h := h M26 e27
    rw [← e27] at hM
    refine lv_aload_n hx hb d_X_init_37 rfl (hl.at 0 rfl) ?_
    refine lv_bipush (v := (60 : Int32)) hx hb d_X_init_38 (by decide) ?_
    refine z_newA hx hb hown (hW _ k_183) (hN.2.2.1) hK hM hS hA (kd := 22) (by decide) 2 rfl (by decide) (N' := 60) (by decide) (by decide) (by decide) (by decide) d_X_init_40 (fun q28 H hq29 hM hS => ?_)
    replace h := h q28 hq29
    obtain ⟨M30, e31⟩ : ∃ z, z = znw M26 q28 (22, 60) := ⟨_, rfl⟩
    replace h := h M30 e31
    rw [← e31] at hM
    have t32 : zT M30 q28 = some (22, 60) := by rw [e31, zT_nw, if_pos rfl]
    obtain ⟨t33, h⟩ := h
    refine z_putR (v := some q28) hx hb hW in_8 ty_8 tyok_8 nm_8 hown hK hM hS t33 (by decide) rfl 3 (by decide) rfl (hW _ k_188) rfl (Or.inr ⟨rfl, hnm, rfl⟩) rfl rfl d_X_init_43 (fun H locs hM hS => ?_)
    obtain ⟨M34, e35⟩ : ∃ z, z = zwR M30 a0 3 (some q28) := ⟨_, rfl⟩
    replace h := h M34 e35
    rw [← e35] at hM
    refine lv_aload_n hx hb d_X_init_46 rfl (hl.at 0 rfl) ?_
    refine lv_iconst (v := (0 : Int32)) hx hb d_X_init_47 (by decide) ?_
    have t36 : zT M34 a0 = some (8, 6) := by rw [e35]; exact t33
    refine z_putI hx hb hW in_8 ty_8 tyok_8 nm_8 hown hK hM hS t36 (by decide) rfl 4 (by decide) rfl (hW _ k_189) rfl (Or.inl rfl) rfl rfl d_X_init_48 (fun H locs hM hS => ?_)
    obtain ⟨M37, e38⟩ : ∃ z, z = zwI M34 a0 4 (0 : Int32) := ⟨_, rfl⟩
    replace h := h M37 e38
    rw [← e38] at hM
    refine lv_aload_n hx hb d_X_init_51 rfl (hl.at 0 rfl) ?_
    refine lv_iconst (v := (0 : Int32)) hx hb d_X_init_52 (by decide) ?_
    have t39 : zT M37 a0 = some (8, 6) := by rw [e38]; exact t36
    refine z_putI hx hb hW in_8 ty_8 tyok_8 nm_8 hown hK hM hS t39 (by decide) rfl 5 (by decide) rfl (hW _ k_190) rfl (Or.inl rfl) rfl rfl d_X_init_53 (fun H locs hM hS => ?_)
    obtain ⟨M40, e41⟩ : ∃ z, z = zwI M37 a0 5 (0 : Int32) := ⟨_, rfl⟩
    replace h := h M40 e41
    rw [← e41] at hM
    refine W.widen (k := 26) (n := 714) (by decide) (by decide) ?_
    rw [← hQ]
    exact z_vret hx hb hr hlk hK hM hS h d_X_init_56
  exact b_start M s.heap [] ls a0 hl hM hS h
set_option maxHeartbeats 4000000 in
set_option maxRecDepth 100000 in
theorem c_X_isLifetime (l : Launch) (ca : Nat → ClassId) (D : va_G) (M : zM) (sz : Nat) (x0 : Int32) (post : Int32 → zM → Prop) : Met l y_X_isLifetime (Cond.code y_X_isLifetime prog_1_method_20_code 1 (some .boolean) :: zws) rm_X_isLifetime (zPre ca D zcl (ztys ca) [.int x0] M sz (w_X_isLifetime M x0 post)) (va_Qi post (zB ca D zcl (ztys ca) (zA M sz)) (zA M sz)) 0 0 (zA M sz) := by
  refine z_met (cc := prog_1_method_20_code) (maxL := 1) (ret := (some .boolean)) (plainFor_of_name (by decide)) rfl (by simp [Value.category]) (Nat.le_of_ble_eq_true rfl) ?_
  intro p e s m args below meth c ls A hx hb hr hlk hml hts hown hnm hK hN hl hA0 hM hS hA h
  rw [← hA0]
  have hW : ∀ w ∈ zws, w.before args s = true := fun w hw => hts w (List.mem_cons_of_mem _ hw)
  have hl : zL ls 1 [(0, .int x0)] := hl
  generalize hQ : MQ below (va_Qi post (zB ca D zcl (ztys ca) A) A) args s 0 0 A = Q
  have b_start : ∀ (M : zM) (H : Heap) (locs : List Loc) (ls : Array Slot) (x0 : Int32), zL ls 1 [(0, .int x0)] → zW ca D zcl A M H → va_S A s.heap H locs → w_X_isLifetime M x0 post → W p l e rm_X_isLifetime s m args below meth c H locs 0 0 Q (F0 m 0 ls []) := by
    intro M H locs ls x0 hl hM hS h
    unfold w_X_isLifetime at h
    refine lv_iload_n hx hb d_X_isLifetime_0 rfl (hl.at 0 rfl) ?_
    refine lv_if_lt (tgt := 15) hx hb d_X_isLifetime_1 rfl (fun c1 => ?_) (fun c1 => ?_)
    · replace h := h.1 c1
      refine lv_iconst (v := (0 : Int32)) hx hb d_X_isLifetime_15 (by decide) ?_
      rw [← hQ]
      exact z_zret hx hb hr hlk rfl hK hM hS h d_X_isLifetime_16
    · replace h := h.2 c1
      refine lv_iload_n hx hb d_X_isLifetime_4 rfl (hl.at 0 rfl) ?_
      refine lv_sipush (v := (1000 : Int32)) hx hb d_X_isLifetime_5 (by decide) ?_
      refine lv_icmp_gt (tgt := 15) hx hb d_X_isLifetime_8 rfl (fun c2 => ?_) (fun c2 => ?_)
      · replace h := h.1 c2
        refine lv_iconst (v := (0 : Int32)) hx hb d_X_isLifetime_15 (by decide) ?_
        rw [← hQ]
        exact z_zret hx hb hr hlk rfl hK hM hS h d_X_isLifetime_16
      · replace h := h.2 c2
        refine lv_iconst (v := (1 : Int32)) hx hb d_X_isLifetime_11 (by decide) ?_
        refine lv_goto (tgt := 16) hx hb d_X_isLifetime_12 rfl ?_
        rw [← hQ]
        exact z_zret hx hb hr hlk rfl hK hM hS h d_X_isLifetime_16
  exact b_start M s.heap [] ls x0 hl hM hS h
set_option maxHeartbeats 4000000 in
set_option maxRecDepth 100000 in
theorem c_X_put (l : Launch) (ca : Nat → ClassId) (D : va_G) (M : zM) (sz : Nat) (a0 : Nat) (x1 : Int32) (x2 : Int32) (x3 : Int32) (post : Int32 → zM → Prop) : Met l y_X_put (Cond.code y_X_put prog_1_method_2_code 5 (some .int) :: zws) rm_X_put (zPre ca D zcl (ztys ca) [.ref a0, .int x1, .int x2, .int x3] M sz (w_X_put M a0 x1 x2 x3 post)) (va_Qi post (zB ca D zcl (ztys ca) (zA M sz)) (zA M sz)) 0 0 (zA M sz) := by
  refine z_met (cc := prog_1_method_2_code) (maxL := 5) (ret := (some .int)) (plainFor_of_name (by decide)) rfl (by simp [Value.category]) (Nat.le_of_ble_eq_true rfl) ?_
  intro p e s m args below meth c ls A hx hb hr hlk hml hts hown hnm hK hN hl hA0 hM hS hA h
  rw [← hA0]
  have hW : ∀ w ∈ zws, w.before args s = true := fun w hw => hts w (List.mem_cons_of_mem _ hw)
  have hl : zL ls 5 [(0, .ref a0), (1, .int x1), (2, .int x2), (3, .int x3)] := hl
  generalize hQ : MQ below (va_Qi post (zB ca D zcl (ztys ca) A) A) args s 0 0 A = Q
  have b_start : ∀ (M : zM) (H : Heap) (locs : List Loc) (ls : Array Slot) (a0 : Nat) (x1 : Int32) (x2 : Int32) (x3 : Int32), zL ls 5 [(0, .ref a0), (1, .int x1), (2, .int x2), (3, .int x3)] → zW ca D zcl A M H → va_S A s.heap H locs → w_X_put M a0 x1 x2 x3 post → W p l e rm_X_put s m args below meth c H locs 0 0 Q (F0 m 0 ls []) := by
    intro M H locs ls a0 x1 x2 x3 hl hM hS h
    unfold w_X_put at h
    refine lv_aload_n hx hb d_X_put_0 rfl (hl.at 0 rfl) ?_
    obtain ⟨t1, h⟩ := h
    refine z_getR hx hb hW in_8 hown hK hM t1 (by decide) rfl 0 (by decide) rfl (hW _ k_185) rfl d_X_put_1 ?_
    refine lv_iload_n hx hb d_X_put_4 rfl (hl.at 1 rfl) ?_
    obtain ⟨b2, hb3, h⟩ := h
    rw [hb3]
    obtain ⟨t4, h⟩ := h
    refine z_ctq (mc := 0) (ms := 0) (va_runV (As := [.int x1]) (rest := []) ⟨hx, hb, hml, hown, hW⟩ (c_S_resourceAt l ca D M H.size b2 x1 _) (cw_S_resourceAt hW k_208 ⟨by decide, by decide⟩) (zPre_V hK hN hM h t4 (by decide) rfl) rfl rfl hl.1.1 rfl (lv_room (Nat.le_of_ble_eq_true rfl)) d_X_put_5 ⟨by decide, by decide⟩) hM hS hA (fun r5 M6 H locs h hM hS => ?_)
    refine z_astore (x := r5) hx hb d_X_put_8 hl (by decide) rfl (fun ls hl => ?_)
    have hl : zL ls 5 [(4, va_rf r5), (0, .ref a0), (1, .int x1), (2, .int x2), (3, .int x3)] := hl
    refine z_aload hx hb d_X_put_10 (hl.at 0 rfl) ?_
    cases r5 with
    | none =>
      replace h := h.1 rfl
      refine lv_ifnullN (tgt := 22) hx hb d_X_put_12 rfl ?_
      refine lv_iconst (v := (-1 : Int32)) hx hb d_X_put_22 (by decide) ?_
      refine W.widen (k := 0) (n := 0) (by decide) (by decide) ?_
      rw [← hQ]
      exact z_iret hx hb hr hlk hK hM hS h d_X_put_23
    | some b7 =>
      replace h := h.2 b7 rfl
      refine lv_ifnull hx hb d_X_put_12 ?_
      refine lv_iload_n hx hb d_X_put_15 rfl (hl.at 4 rfl) ?_
      refine z_cti (mc := 0) (ms := 0) (va_runS (As := [.int x3]) (rest := []) ⟨hx, hb, hml, hown, hW⟩ (c_X_isLifetime l ca D M6 H.size x3 _) (cw_X_isLifetime hW k_212 ⟨by decide, by decide⟩) (zPre_S hK hN hM h) rfl rfl hl.1.1 rfl (lv_room (Nat.le_of_ble_eq_true rfl)) d_X_put_16 ⟨by decide, by decide⟩) hM hS hA (fun r8 M9 H locs h hM hS => ?_)
      refine lv_if_ne (tgt := 24) hx hb d_X_put_19 rfl (fun c10 => ?_) (fun c10 => ?_)
      · replace h := h.2 c10
        refine lv_aload_n hx hb d_X_put_24 rfl (hl.at 1 rfl) ?_
        obtain ⟨t11, h⟩ := h
        refine z_getR hx hb hW in_8 hown hK hM t11 (by decide) rfl 0 (by decide) rfl (hW _ k_185) rfl d_X_put_25 ?_
        refine lv_aload hx hb d_X_put_28 (hl.at 0 rfl) ?_
        refine lv_iload_n hx hb d_X_put_30 rfl (hl.at 3 rfl) ?_
        refine lv_iload_n hx hb d_X_put_31 rfl (hl.at 4 rfl) ?_
        obtain ⟨b12, hb13, h⟩ := h
        rw [hb13]
        obtain ⟨t14, h⟩ := h
        refine z_ctv (mc := 0) (ms := 0) (va_runV (As := [.ref b7, .int x2, .int x3]) (rest := []) ⟨hx, hb, hml, hown, hW⟩ (c_S_write l ca D M9 H.size b12 b7 x2 x3 _) (cw_S_write hW k_215 ⟨by decide, by decide⟩) (zPre_V hK hN hM h t14 (by decide) rfl) rfl rfl hl.1.1 rfl (lv_room (Nat.le_of_ble_eq_true rfl)) d_X_put_32 ⟨by decide, by decide⟩) hM hS hA (fun M15 H locs h hM hS => ?_)
        refine lv_aload hx hb d_X_put_35 (hl.at 0 rfl) ?_
        obtain ⟨t16, h⟩ := h
        refine z_getI hx hb hW in_4 hown hK hM t16 (by decide) rfl 1 (by decide) rfl (hW _ k_35) rfl d_X_put_37 ?_
        refine W.widen (k := 0) (n := 0) (by decide) (by decide) ?_
        rw [← hQ]
        exact z_iret hx hb hr hlk hK hM hS h d_X_put_40
      · replace h := h.1 c10
        refine lv_iconst (v := (-1 : Int32)) hx hb d_X_put_22 (by decide) ?_
        refine W.widen (k := 0) (n := 0) (by decide) (by decide) ?_
        rw [← hQ]
        exact z_iret hx hb hr hlk hK hM hS h d_X_put_23
  exact b_start M s.heap [] ls a0 x1 x2 x3 hl hM hS h
set_option maxHeartbeats 4000000 in
set_option maxRecDepth 100000 in
theorem c_X_drop (l : Launch) (ca : Nat → ClassId) (D : va_G) (M : zM) (sz : Nat) (a0 : Nat) (x1 : Int32) (post : Int32 → zM → Prop) : Met l y_X_drop (Cond.code y_X_drop prog_1_method_3_code 3 (some .boolean) :: zws) rm_X_drop (zPre ca D zcl (ztys ca) [.ref a0, .int x1] M sz (w_X_drop M a0 x1 post)) (va_Qi post (zB ca D zcl (ztys ca) (zA M sz)) (zA M sz)) 0 0 (zA M sz) := by
  refine z_met (cc := prog_1_method_3_code) (maxL := 3) (ret := (some .boolean)) (plainFor_of_name (by decide)) rfl (by simp [Value.category]) (Nat.le_of_ble_eq_true rfl) ?_
  intro p e s m args below meth c ls A hx hb hr hlk hml hts hown hnm hK hN hl hA0 hM hS hA h
  rw [← hA0]
  have hW : ∀ w ∈ zws, w.before args s = true := fun w hw => hts w (List.mem_cons_of_mem _ hw)
  have hl : zL ls 3 [(0, .ref a0), (1, .int x1)] := hl
  generalize hQ : MQ below (va_Qi post (zB ca D zcl (ztys ca) A) A) args s 0 0 A = Q
  have b_start : ∀ (M : zM) (H : Heap) (locs : List Loc) (ls : Array Slot) (a0 : Nat) (x1 : Int32), zL ls 3 [(0, .ref a0), (1, .int x1)] → zW ca D zcl A M H → va_S A s.heap H locs → w_X_drop M a0 x1 post → W p l e rm_X_drop s m args below meth c H locs 0 0 Q (F0 m 0 ls []) := by
    intro M H locs ls a0 x1 hl hM hS h
    unfold w_X_drop at h
    refine lv_aload_n hx hb d_X_drop_0 rfl (hl.at 0 rfl) ?_
    obtain ⟨t1, h⟩ := h
    refine z_getR hx hb hW in_8 hown hK hM t1 (by decide) rfl 0 (by decide) rfl (hW _ k_185) rfl d_X_drop_1 ?_
    refine lv_iload_n hx hb d_X_drop_4 rfl (hl.at 1 rfl) ?_
    obtain ⟨b2, hb3, h⟩ := h
    rw [hb3]
    obtain ⟨t4, h⟩ := h
    refine z_ctq (mc := 0) (ms := 0) (va_runV (As := [.int x1]) (rest := []) ⟨hx, hb, hml, hown, hW⟩ (c_S_resourceAt l ca D M H.size b2 x1 _) (cw_S_resourceAt hW k_208 ⟨by decide, by decide⟩) (zPre_V hK hN hM h t4 (by decide) rfl) rfl rfl hl.1.1 rfl (lv_room (Nat.le_of_ble_eq_true rfl)) d_X_drop_5 ⟨by decide, by decide⟩) hM hS hA (fun r5 M6 H locs h hM hS => ?_)
    refine z_astore_n (x := r5) hx hb d_X_drop_8 rfl hl (by decide) rfl (fun ls hl => ?_)
    have hl : zL ls 3 [(2, va_rf r5), (0, .ref a0), (1, .int x1)] := hl
    refine z_aload_n hx hb d_X_drop_9 rfl (hl.at 0 rfl) ?_
    cases r5 with
    | none =>
      replace h := h.1 rfl
      refine lv_ifnullN (tgt := 20) hx hb d_X_drop_10 rfl ?_
      refine lv_iconst (v := (0 : Int32)) hx hb d_X_drop_20 (by decide) ?_
      refine W.widen (k := 0) (n := 0) (by decide) (by decide) ?_
      rw [← hQ]
      exact z_zret hx hb hr hlk rfl hK hM hS h d_X_drop_21
    | some b7 =>
      replace h := h.2 b7 rfl
      refine lv_ifnull hx hb d_X_drop_10 ?_
      refine lv_aload_n hx hb d_X_drop_13 rfl (hl.at 0 rfl) ?_
      obtain ⟨t8, h⟩ := h
      refine z_getI hx hb hW in_4 hown hK hM t8 (by decide) rfl 0 (by decide) rfl (hW _ k_34) rfl d_X_drop_14 ?_
      refine lv_if_ne (tgt := 22) hx hb d_X_drop_17 rfl (fun c9 => ?_) (fun c9 => ?_)
      · replace h := h.2 c9
        refine lv_aload_n hx hb d_X_drop_22 rfl (hl.at 0 rfl) ?_
        refine lv_iconst (v := (0 : Int32)) hx hb d_X_drop_23 (by decide) ?_
        refine z_putI hx hb hW in_4 ty_4 tyok_4 nm_4 hown hK hM hS t8 (by decide) rfl 0 (by decide) rfl (hW _ k_34) rfl (Or.inl rfl) rfl rfl d_X_drop_24 (fun H locs hM hS => ?_)
        obtain ⟨M10, e11⟩ : ∃ z, z = zwI M6 b7 0 (0 : Int32) := ⟨_, rfl⟩
        replace h := h M10 e11
        rw [← e11] at hM
        refine lv_iconst (v := (1 : Int32)) hx hb d_X_drop_27 (by decide) ?_
        refine W.widen (k := 0) (n := 0) (by decide) (by decide) ?_
        rw [← hQ]
        exact z_zret hx hb hr hlk rfl hK hM hS h d_X_drop_28
      · replace h := h.1 c9
        refine lv_iconst (v := (0 : Int32)) hx hb d_X_drop_20 (by decide) ?_
        refine W.widen (k := 0) (n := 0) (by decide) (by decide) ?_
        rw [← hQ]
        exact z_zret hx hb hr hlk rfl hK hM hS h d_X_drop_21
  exact b_start M s.heap [] ls a0 x1 hl hM hS h
set_option maxHeartbeats 4000000 in
set_option maxRecDepth 100000 in
theorem c_X_makeRequest (l : Launch) (ca : Nat → ClassId) (D : va_G) (M : zM) (sz : Nat) (a0 : Nat) (x1 : Int32) (x2 : Int32) (x3 : Int32) (x4 : Int32) (post : Int32 → zM → Prop) : Met l y_X_makeRequest (Cond.code y_X_makeRequest prog_1_method_22_code 7 (some .int) :: zws) rm_X_makeRequest (zPre ca D zcl (ztys ca) [.ref a0, .int x1, .int x2, .int x3, .int x4] M sz (w_X_makeRequest M a0 x1 x2 x3 x4 post)) (va_Qi post (zB ca D zcl (ztys ca) (zA M sz)) (zA M sz)) 1 12 (zA M sz) := by
  refine z_met (cc := prog_1_method_22_code) (maxL := 7) (ret := (some .int)) (plainFor_of_name (by decide)) rfl (by simp [Value.category]) (Nat.le_of_ble_eq_true rfl) ?_
  intro p e s m args below meth c ls A hx hb hr hlk hml hts hown hnm hK hN hl hA0 hM hS hA h
  rw [← hA0]
  have hW : ∀ w ∈ zws, w.before args s = true := fun w hw => hts w (List.mem_cons_of_mem _ hw)
  have hl : zL ls 7 [(0, .ref a0), (1, .int x1), (2, .int x2), (3, .int x3), (4, .int x4)] := hl
  generalize hQ : MQ below (va_Qi post (zB ca D zcl (ztys ca) A) A) args s 1 12 A = Q
  have b_start : ∀ (M : zM) (H : Heap) (locs : List Loc) (ls : Array Slot) (a0 : Nat) (x1 : Int32) (x2 : Int32) (x3 : Int32) (x4 : Int32), zL ls 7 [(0, .ref a0), (1, .int x1), (2, .int x2), (3, .int x3), (4, .int x4)] → zW ca D zcl A M H → va_S A s.heap H locs → w_X_makeRequest M a0 x1 x2 x3 x4 post → W p l e rm_X_makeRequest s m args below meth c H locs 0 0 Q (F0 m 0 ls []) := by
    intro M H locs ls a0 x1 x2 x3 x4 hl hM hS h
    unfold w_X_makeRequest at h
    refine lv_aload_n hx hb d_X_makeRequest_0 rfl (hl.at 0 rfl) ?_
    obtain ⟨t1, h⟩ := h
    refine z_getR hx hb hW in_8 hown hK hM t1 (by decide) rfl 1 (by decide) rfl (hW _ k_186) rfl d_X_makeRequest_1 ?_
    refine lv_iload_n hx hb d_X_makeRequest_4 rfl (hl.at 1 rfl) ?_
    obtain ⟨b2, hb3, h⟩ := h
    rw [hb3]
    obtain ⟨t4, h⟩ := h
    refine z_ctq (mc := 0) (ms := 0) (va_runV (As := [.int x1]) (rest := []) ⟨hx, hb, hml, hown, hW⟩ (c_C_storedAt l ca D M H.size b2 x1 _) (cw_C_storedAt hW k_231 ⟨by decide, by decide⟩) (zPre_V hK hN hM h t4 (by decide) rfl) rfl rfl hl.1.1 rfl (lv_room (Nat.le_of_ble_eq_true rfl)) d_X_makeRequest_5 ⟨by decide, by decide⟩) hM hS hA (fun r5 M6 H locs h hM hS => ?_)
    refine z_astore (x := r5) hx hb d_X_makeRequest_8 hl (by decide) rfl (fun ls hl => ?_)
    have hl : zL ls 7 [(5, va_rf r5), (0, .ref a0), (1, .int x1), (2, .int x2), (3, .int x3), (4, .int x4)] := hl
    refine z_aload hx hb d_X_makeRequest_10 (hl.at 0 rfl) ?_
    cases r5 with
    | none =>
      replace h := h.1 rfl
      refine lv_ifnullN (tgt := 27) hx hb d_X_makeRequest_12 rfl ?_
      refine lv_iconst (v := (-1 : Int32)) hx hb d_X_makeRequest_27 (by decide) ?_
      refine W.widen (k := 1) (n := 12) (by decide) (by decide) ?_
      rw [← hQ]
      exact z_iret hx hb hr hlk hK hM hS h d_X_makeRequest_28
    | some b7 =>
      replace h := h.2 b7 rfl
      refine lv_ifnull hx hb d_X_makeRequest_12 ?_
      refine lv_aload_n hx hb d_X_makeRequest_15 rfl (hl.at 1 rfl) ?_
      obtain ⟨t8, h⟩ := h
      refine z_getI hx hb hW in_8 hown hK hM t8 (by decide) rfl 4 (by decide) rfl (hW _ k_189) rfl d_X_makeRequest_16 ?_
      refine lv_aload_n hx hb d_X_makeRequest_19 rfl (hl.at 1 rfl) ?_
      refine z_getR hx hb hW in_8 hown hK hM t8 (by decide) rfl 3 (by decide) rfl (hW _ k_188) rfl d_X_makeRequest_20 ?_
      obtain ⟨b9, hb10, h⟩ := h
      rw [hb10]
      obtain ⟨n12, t11, h⟩ := h
      refine z_alen hx hb hK hM t11 (by decide) 2 rfl d_X_makeRequest_23 ?_
      refine lv_icmp_lt (tgt := 29) hx hb d_X_makeRequest_24 rfl (fun c13 => ?_) (fun c13 => ?_)
      · replace h := h.1 c13
        refine z_new (ci := 3) hx hb hW in_3 ty_3 tyok_3 hown (hW _ k_183) (hW _ k_235) (hW _ k_9) hK hM hS hA (by decide) rfl df_3 (by decide) (by decide) d_X_makeRequest_29 (fun q14 H hq15 hM hS => ?_)
        replace h := h q14 hq15
        obtain ⟨M16, e17⟩ : ∃ z, z = znw M6 q14 (3, 12) := ⟨_, rfl⟩
        replace h := h M16 e17
        rw [← e17] at hM
        have t18 : zT M16 q14 = some (3, 12) := by rw [e17, zT_nw, if_pos rfl]
        refine lv_dup hx hb d_X_makeRequest_32 rfl ?_
        refine lv_aload_n hx hb d_X_makeRequest_33 rfl (hl.at 1 rfl) ?_
        obtain ⟨t19, h⟩ := h
        refine z_getI hx hb hW in_8 hown hK hM t19 (by decide) rfl 4 (by decide) rfl (hW _ k_189) rfl d_X_makeRequest_34 ?_
        refine lv_iload_n hx hb d_X_makeRequest_37 rfl (hl.at 2 rfl) ?_
        refine lv_iload_n hx hb d_X_makeRequest_38 rfl (hl.at 3 rfl) ?_
        refine lv_iload_n hx hb d_X_makeRequest_39 rfl (hl.at 4 rfl) ?_
        refine lv_iload hx hb d_X_makeRequest_40 (hl.at 5 rfl) ?_
        refine z_ctv (mc := 0) (ms := 0) (va_runI (As := [.int (zI M16 a0 4), .int x1, .int x2, .int x3, .int x4]) (rest := [.ref q14]) ⟨hx, hb, hml, hown, hW⟩ (c_Q_init l ca D M16 H.size q14 (zI M16 a0 4) x1 x2 x3 x4 _) (cw_Q_init hW k_236 ⟨by decide, by decide⟩) (zPre_S hK hN hM h) rfl rfl hl.1.1 rfl (lv_room (Nat.le_of_ble_eq_true rfl)) d_X_makeRequest_42 ⟨by decide, by decide⟩) hM hS hA (fun M20 H locs h hM hS => ?_)
        refine z_astore (x := some q14) hx hb d_X_makeRequest_45 hl (by decide) rfl (fun ls hl => ?_)
        have hl : zL ls 7 [(6, .ref q14), (5, .ref b7), (0, .ref a0), (1, .int x1), (2, .int x2), (3, .int x3), (4, .int x4)] := hl
        refine lv_aload_n hx hb d_X_makeRequest_47 rfl (hl.at 2 rfl) ?_
        obtain ⟨t21, h⟩ := h
        refine z_getR hx hb hW in_8 hown hK hM t21 (by decide) rfl 1 (by decide) rfl (hW _ k_186) rfl d_X_makeRequest_48 ?_
        refine lv_aload hx hb d_X_makeRequest_51 (hl.at 0 rfl) ?_
        refine lv_aload hx hb d_X_makeRequest_53 (hl.at 1 rfl) ?_
        refine lv_aload_n hx hb d_X_makeRequest_55 rfl (hl.at 2 rfl) ?_
        refine z_getI hx hb hW in_8 hown hK hM t21 (by decide) rfl 5 (by decide) rfl (hW _ k_190) rfl d_X_makeRequest_56 ?_
        obtain ⟨b22, hb23, h⟩ := h
        rw [hb23]
        obtain ⟨t24, h⟩ := h
        refine z_ctv (mc := 0) (ms := 0) (va_runV (As := [.ref q14, .ref b7, .int (zI M20 a0 5)]) (rest := []) ⟨hx, hb, hml, hown, hW⟩ (c_C_begin l ca D M20 H.size b22 q14 b7 (zI M20 a0 5) _) (cw_C_begin hW k_292 ⟨by decide, by decide⟩) (zPre_V hK hN hM h t24 (by decide) rfl) rfl rfl hl.1.1 rfl (lv_room (Nat.le_of_ble_eq_true rfl)) d_X_makeRequest_59 ⟨by decide, by decide⟩) hM hS hA (fun M25 H locs h hM hS => ?_)
        refine lv_aload_n hx hb d_X_makeRequest_62 rfl (hl.at 2 rfl) ?_
        obtain ⟨t26, h⟩ := h
        refine z_getR hx hb hW in_8 hown hK hM t26 (by decide) rfl 3 (by decide) rfl (hW _ k_188) rfl d_X_makeRequest_63 ?_
        refine lv_aload_n hx hb d_X_makeRequest_66 rfl (hl.at 2 rfl) ?_
        refine z_getI hx hb hW in_8 hown hK hM t26 (by decide) rfl 4 (by decide) rfl (hW _ k_189) rfl d_X_makeRequest_67 ?_
        refine lv_aload hx hb d_X_makeRequest_70 (hl.at 0 rfl) ?_
        obtain ⟨b27, hb28, h⟩ := h
        rw [hb28]
        obtain ⟨n30, t29, h⟩ := h
        obtain ⟨t31, h⟩ := h
        obtain ⟨i32, h⟩ := h
        refine z_aast hx hb hK hM hS t29 (by decide) 2 rfl t31 (by decide) rfl i32 d_X_makeRequest_72 (fun H locs hM hS => ?_)
        obtain ⟨M33, e34⟩ : ∃ z, z = zwR M25 b27 (zI M25 a0 4).toNatClampNeg (some q14) := ⟨_, rfl⟩
        replace h := h M33 e34
        rw [← e34] at hM
        refine lv_aload_n hx hb d_X_makeRequest_73 rfl (hl.at 2 rfl) ?_
        refine lv_dup hx hb d_X_makeRequest_74 rfl ?_
        have t35 : zT M33 a0 = some (8, 6) := by rw [e34]; exact t26
        refine z_getI hx hb hW in_8 hown hK hM t35 (by decide) rfl 4 (by decide) rfl (hW _ k_189) rfl d_X_makeRequest_75 ?_
        refine lv_iconst (v := (1 : Int32)) hx hb d_X_makeRequest_78 (by decide) ?_
        refine lv_iadd hx hb d_X_makeRequest_79 ?_
        refine z_putI hx hb hW in_8 ty_8 tyok_8 nm_8 hown hK hM hS t35 (by decide) rfl 4 (by decide) rfl (hW _ k_189) rfl (Or.inl rfl) rfl rfl d_X_makeRequest_80 (fun H locs hM hS => ?_)
        obtain ⟨M36, e37⟩ : ∃ z, z = zwI M33 a0 4 ((zI M33 a0 4) + (1 : Int32)) := ⟨_, rfl⟩
        replace h := h M36 e37
        rw [← e37] at hM
        refine lv_aload hx hb d_X_makeRequest_83 (hl.at 0 rfl) ?_
        have t38 : zT M36 q14 = some (3, 12) := by rw [e37, e34]; exact t31
        refine z_getI hx hb hW in_3 hown hK hM t38 (by decide) rfl 0 (by decide) rfl (hW _ k_243) rfl d_X_makeRequest_85 ?_
        refine W.widen (k := 1) (n := 12) (by decide) (by decide) ?_
        rw [← hQ]
        exact z_iret hx hb hr hlk hK hM hS h d_X_makeRequest_88
      · replace h := h.2 c13
        refine lv_iconst (v := (-1 : Int32)) hx hb d_X_makeRequest_27 (by decide) ?_
        refine W.widen (k := 1) (n := 12) (by decide) (by decide) ?_
        rw [← hQ]
        exact z_iret hx hb hr hlk hK hM hS h d_X_makeRequest_28
  exact b_start M s.heap [] ls a0 x1 x2 x3 x4 hl hM hS h
