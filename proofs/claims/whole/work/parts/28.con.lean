set_option maxHeartbeats 4000000 in
set_option maxRecDepth 100000 in
theorem c_Y_feedback (l : Launch) (ca : Nat → ClassId) (D : va_G) (M : zM) (sz : Nat) (a0 : Nat) (post : Int32 → zM → Prop) : Met l y_Y_feedback (Cond.code y_Y_feedback prog_11_method_16_code 1 (some .int) :: zws) rm_Y_feedback (zPre ca D zcl (ztys ca) [.ref a0] M sz (w_Y_feedback M a0 post)) (va_Qi post (zB ca D zcl (ztys ca) (zA M sz)) (zA M sz)) 0 0 (zA M sz) := by
  refine z_met (cc := prog_11_method_16_code) (maxL := 1) (ret := (some .int)) (plainFor_of_name (by decide)) rfl (by simp [Value.category]) (Nat.le_of_ble_eq_true rfl) ?_
  intro p e s m args below meth c ls A hx hb hr hlk hml hts hown hnm hK hN hl hA0 hM hS hA h
  rw [← hA0]
  have hW : ∀ w ∈ zws, w.before args s = true := fun w hw => hts w (List.mem_cons_of_mem _ hw)
  have hl : zL ls 1 [(0, .ref a0)] := hl
  generalize hQ : MQ below (va_Qi post (zB ca D zcl (ztys ca) A) A) args s 0 0 A = Q
  have b_start : ∀ (M : zM) (H : Heap) (locs : List Loc) (ls : Array Slot) (a0 : Nat), zL ls 1 [(0, .ref a0)] → zW ca D zcl A M H → va_S A s.heap H locs → w_Y_feedback M a0 post → W p l e rm_Y_feedback s m args below meth c H locs 0 0 Q (F0 m 0 ls []) := by
    intro M H locs ls a0 hl hM hS h
    unfold w_Y_feedback at h
    refine lv_aload_n hx hb d_Y_feedback_0 rfl (hl.at 0 rfl) ?_
    obtain ⟨t1, h⟩ := h
    refine z_getI hx hb hW in_9 hown hK hM t1 (by decide) rfl 35 (by decide) rfl (hW _ k_620) rfl d_Y_feedback_1 ?_
    refine lv_aload_n hx hb d_Y_feedback_4 rfl (hl.at 0 rfl) ?_
    refine z_getI hx hb hW in_9 hown hK hM t1 (by decide) rfl 34 (by decide) rfl (hW _ k_619) rfl d_Y_feedback_5 ?_
    refine lv_icmp_ne (tgt := 13) hx hb d_Y_feedback_8 rfl (fun c2 => ?_) (fun c2 => ?_)
    · replace h := h.2 c2
      refine lv_aload_n hx hb d_Y_feedback_13 rfl (hl.at 0 rfl) ?_
      refine lv_dup hx hb d_Y_feedback_14 rfl ?_
      refine z_getI hx hb hW in_9 hown hK hM t1 (by decide) rfl 35 (by decide) rfl (hW _ k_620) rfl d_Y_feedback_15 ?_
      refine lv_iconst (v := (1 : Int32)) hx hb d_Y_feedback_18 (by decide) ?_
      refine lv_iadd hx hb d_Y_feedback_19 ?_
      refine z_putI hx hb hW in_9 ty_9 tyok_9 nm_9 hown hK hM hS t1 (by decide) rfl 35 (by decide) rfl (hW _ k_620) rfl (Or.inl rfl) rfl rfl d_Y_feedback_20 (fun H locs hM hS => ?_)
      obtain ⟨M3, e4⟩ : ∃ z, z = zwI M a0 35 ((zI M a0 35) + (1 : Int32)) := ⟨_, rfl⟩
      replace h := h M3 e4
      rw [← e4] at hM
      refine lv_aload_n hx hb d_Y_feedback_23 rfl (hl.at 0 rfl) ?_
      have t5 : zT M3 a0 = some (9, 40) := by rw [e4]; exact t1
      refine z_getR hx hb hW in_9 hown hK hM t5 (by decide) rfl 32 (by decide) rfl (hW _ k_617) rfl d_Y_feedback_24 ?_
      refine lv_aload_n hx hb d_Y_feedback_27 rfl (hl.at 0 rfl) ?_
      refine z_getI hx hb hW in_9 hown hK hM t5 (by decide) rfl 35 (by decide) rfl (hW _ k_620) rfl d_Y_feedback_28 ?_
      refine lv_iconst (v := (1 : Int32)) hx hb d_Y_feedback_31 (by decide) ?_
      refine lv_isub hx hb d_Y_feedback_32 ?_
      obtain ⟨b6, hb7, h⟩ := h
      rw [hb7]
      obtain ⟨n9, t8, h⟩ := h
      obtain ⟨i10, h⟩ := h
      refine z_iald hx hb hK hM t8 0 rfl i10 d_Y_feedback_33 ?_
      rw [← hQ]
      exact z_iret hx hb hr hlk hK hM hS h d_Y_feedback_34
    · replace h := h.1 c2
      refine lv_iconst (v := (-1 : Int32)) hx hb d_Y_feedback_11 (by decide) ?_
      rw [← hQ]
      exact z_iret hx hb hr hlk hK hM hS h d_Y_feedback_12
  exact b_start M s.heap [] ls a0 hl hM hS h
set_option maxHeartbeats 4000000 in
set_option maxRecDepth 100000 in
theorem c_Y_goaway (l : Launch) (ca : Nat → ClassId) (D : va_G) (M : zM) (sz : Nat) (a0 : Nat) (post : Int32 → zM → Prop) : Met l y_Y_goaway (Cond.code y_Y_goaway prog_11_method_17_code 1 (some .int) :: zws) rm_Y_goaway (zPre ca D zcl (ztys ca) [.ref a0] M sz (w_Y_goaway M a0 post)) (va_Qi post (zB ca D zcl (ztys ca) (zA M sz)) (zA M sz)) 0 0 (zA M sz) := by
  refine z_met (cc := prog_11_method_17_code) (maxL := 1) (ret := (some .int)) (plainFor_of_name (by decide)) rfl (by simp [Value.category]) (Nat.le_of_ble_eq_true rfl) ?_
  intro p e s m args below meth c ls A hx hb hr hlk hml hts hown hnm hK hN hl hA0 hM hS hA h
  rw [← hA0]
  have hW : ∀ w ∈ zws, w.before args s = true := fun w hw => hts w (List.mem_cons_of_mem _ hw)
  have hl : zL ls 1 [(0, .ref a0)] := hl
  generalize hQ : MQ below (va_Qi post (zB ca D zcl (ztys ca) A) A) args s 0 0 A = Q
  have b_start : ∀ (M : zM) (H : Heap) (locs : List Loc) (ls : Array Slot) (a0 : Nat), zL ls 1 [(0, .ref a0)] → zW ca D zcl A M H → va_S A s.heap H locs → w_Y_goaway M a0 post → W p l e rm_Y_goaway s m args below meth c H locs 0 0 Q (F0 m 0 ls []) := by
    intro M H locs ls a0 hl hM hS h
    unfold w_Y_goaway at h
    refine lv_aload_n hx hb d_Y_goaway_0 rfl (hl.at 0 rfl) ?_
    obtain ⟨t1, h⟩ := h
    refine z_getI hx hb hW in_9 hown hK hM t1 (by decide) rfl 36 (by decide) rfl (hW _ k_621) rfl d_Y_goaway_1 ?_
    refine lv_if_ne (tgt := 20) hx hb d_Y_goaway_4 rfl (fun c2 => ?_) (fun c2 => ?_)
    · replace h := h.2 c2
      refine lv_aload_n hx hb d_Y_goaway_20 rfl (hl.at 0 rfl) ?_
      refine z_getI hx hb hW in_9 hown hK hM t1 (by decide) rfl 38 (by decide) rfl (hW _ k_623) rfl d_Y_goaway_21 ?_
      rw [← hQ]
      exact z_iret hx hb hr hlk hK hM hS h d_Y_goaway_24
    · replace h := h.1 c2
      refine lv_aload_n hx hb d_Y_goaway_7 rfl (hl.at 0 rfl) ?_
      refine lv_iconst (v := (1 : Int32)) hx hb d_Y_goaway_8 (by decide) ?_
      refine z_putI hx hb hW in_9 ty_9 tyok_9 nm_9 hown hK hM hS t1 (by decide) rfl 36 (by decide) rfl (hW _ k_621) rfl (Or.inl rfl) rfl rfl d_Y_goaway_9 (fun H locs hM hS => ?_)
      obtain ⟨M3, e4⟩ : ∃ z, z = zwI M a0 36 (1 : Int32) := ⟨_, rfl⟩
      replace h := h M3 e4
      rw [← e4] at hM
      refine lv_aload_n hx hb d_Y_goaway_12 rfl (hl.at 0 rfl) ?_
      refine lv_aload_n hx hb d_Y_goaway_13 rfl (hl.at 0 rfl) ?_
      have t5 : zT M3 a0 = some (9, 40) := by rw [e4]; exact t1
      refine z_getI hx hb hW in_9 hown hK hM t5 (by decide) rfl 39 (by decide) rfl (hW _ k_624) rfl d_Y_goaway_14 ?_
      refine z_putI hx hb hW in_9 ty_9 tyok_9 nm_9 hown hK hM hS t5 (by decide) rfl 38 (by decide) rfl (hW _ k_623) rfl (Or.inl rfl) rfl rfl d_Y_goaway_17 (fun H locs hM hS => ?_)
      obtain ⟨M6, e7⟩ : ∃ z, z = zwI M3 a0 38 (zI M3 a0 39) := ⟨_, rfl⟩
      replace h := h M6 e7
      rw [← e7] at hM
      refine lv_aload_n hx hb d_Y_goaway_20 rfl (hl.at 0 rfl) ?_
      have t8 : zT M6 a0 = some (9, 40) := by rw [e7]; exact t5
      refine z_getI hx hb hW in_9 hown hK hM t8 (by decide) rfl 38 (by decide) rfl (hW _ k_623) rfl d_Y_goaway_21 ?_
      rw [← hQ]
      exact z_iret hx hb hr hlk hK hM hS h d_Y_goaway_24
  exact b_start M s.heap [] ls a0 hl hM hS h
set_option maxHeartbeats 4000000 in
set_option maxRecDepth 100000 in
theorem c_Y_ask (l : Launch) (ca : Nat → ClassId) (D : va_G) (M : zM) (sz : Nat) (a0 : Nat) (x1 : Int32) (x2 : Int32) (x3 : Int32) (x4 : Int32) (post : Int32 → zM → Prop) : Met l y_Y_ask (Cond.code y_Y_ask prog_11_method_18_code 7 (some .int) :: zws) rm_Y_ask (zPre ca D zcl (ztys ca) [.ref a0, .int x1, .int x2, .int x3, .int x4] M sz (w_Y_ask M a0 x1 x2 x3 x4 post)) (va_Qi post (zB ca D zcl (ztys ca) (zA M sz)) (zA M sz)) 0 0 (zA M sz) := by
  refine z_met (cc := prog_11_method_18_code) (maxL := 7) (ret := (some .int)) (plainFor_of_name (by decide)) rfl (by simp [Value.category]) (Nat.le_of_ble_eq_true rfl) ?_
  intro p e s m args below meth c ls A hx hb hr hlk hml hts hown hnm hK hN hl hA0 hM hS hA h
  rw [← hA0]
  have hW : ∀ w ∈ zws, w.before args s = true := fun w hw => hts w (List.mem_cons_of_mem _ hw)
  have hl : zL ls 7 [(0, .ref a0), (1, .int x1), (2, .int x2), (3, .int x3), (4, .int x4)] := hl
  generalize hQ : MQ below (va_Qi post (zB ca D zcl (ztys ca) A) A) args s 0 0 A = Q
  have b_201 : ∀ (M : zM) (H : Heap) (locs : List Loc) (ls : Array Slot) (a0 : Nat) (x1 : Int32) (x2 : Int32) (x3 : Int32) (x4 : Int32) (x5 : Int32) (x6 : Int32), zL ls 7 [(0, .ref a0), (1, .int x1), (2, .int x2), (3, .int x3), (4, .int x4), (5, .int x5), (6, .int x6)] → zW ca D zcl A M H → va_S A s.heap H locs → w_Y_ask_201 post M a0 x1 x2 x3 x4 x5 x6 → W p l e rm_Y_ask s m args below meth c H locs 0 0 Q (F0 m 201 ls []) := by
    intro M H locs ls a0 x1 x2 x3 x4 x5 x6 hl hM hS h
    unfold w_Y_ask_201 at h
    refine lv_iload hx hb d_Y_ask_201 (hl.at 5 rfl) ?_
    rw [← hQ]
    exact z_iret hx hb hr hlk hK hM hS h d_Y_ask_203
  have b_200 : ∀ (M : zM) (H : Heap) (locs : List Loc) (ls : Array Slot) (a0 : Nat) (x1 : Int32) (x2 : Int32) (x3 : Int32) (x4 : Int32) (x5 : Int32) (x6 : Int32) (w0 : Option Nat) (u1 : Int32) (u2 : Int32), zL ls 7 [(0, .ref a0), (1, .int x1), (2, .int x2), (3, .int x3), (4, .int x4), (5, .int x5), (6, .int x6)] → zW ca D zcl A M H → va_S A s.heap H locs → w_Y_ask_200 post M a0 x1 x2 x3 x4 x5 x6 w0 u1 u2 → W p l e rm_Y_ask s m args below meth c H locs 0 0 Q (F0 m 200 ls [.int u2, .int u1, va_rf w0]) := by
    intro M H locs ls a0 x1 x2 x3 x4 x5 x6 w0 u1 u2 hl hM hS h
    unfold w_Y_ask_200 at h
    obtain ⟨b72, hb73, h⟩ := h
    subst hb73
    obtain ⟨n75, t74, h⟩ := h
    obtain ⟨i76, h⟩ := h
    refine z_iast hx hb hK hM hS t74 0 rfl i76 d_Y_ask_200 (fun H locs hM hS => ?_)
    obtain ⟨M77, e78⟩ : ∃ z, z = zwI M b72 u1.toNatClampNeg u2 := ⟨_, rfl⟩
    replace h := h M77 e78
    rw [← e78] at hM
    exact b_201 M77 H locs ls a0 x1 x2 x3 x4 x5 x6 (hl.sub [0, 1, 2, 3, 4, 5, 6] rfl) hM hS h
  have b_178 : ∀ (M : zM) (H : Heap) (locs : List Loc) (ls : Array Slot) (a0 : Nat) (x1 : Int32) (x2 : Int32) (x3 : Int32) (x4 : Int32) (x5 : Int32) (x6 : Int32) (w0 : Option Nat) (u1 : Int32) (u2 : Int32), zL ls 7 [(0, .ref a0), (1, .int x1), (2, .int x2), (3, .int x3), (4, .int x4), (5, .int x5), (6, .int x6)] → zW ca D zcl A M H → va_S A s.heap H locs → w_Y_ask_178 post M a0 x1 x2 x3 x4 x5 x6 w0 u1 u2 → W p l e rm_Y_ask s m args below meth c H locs 0 0 Q (F0 m 178 ls [.int u2, .int u1, va_rf w0]) := by
    intro M H locs ls a0 x1 x2 x3 x4 x5 x6 w0 u1 u2 hl hM hS h
    unfold w_Y_ask_178 at h
    obtain ⟨b63, hb64, h⟩ := h
    subst hb64
    obtain ⟨n66, t65, h⟩ := h
    obtain ⟨i67, h⟩ := h
    refine z_iast hx hb hK hM hS t65 0 rfl i67 d_Y_ask_178 (fun H locs hM hS => ?_)
    obtain ⟨M68, e69⟩ : ∃ z, z = zwI M b63 u1.toNatClampNeg u2 := ⟨_, rfl⟩
    replace h := h M68 e69
    rw [← e69] at hM
    refine lv_aload_n hx hb d_Y_ask_179 rfl (hl.at 0 rfl) ?_
    obtain ⟨t70, h⟩ := h
    refine z_getR hx hb hW in_9 hown hK hM t70 (by decide) rfl 14 (by decide) rfl (hW _ k_599) rfl d_Y_ask_180 ?_
    refine lv_iload hx hb d_Y_ask_183 (hl.at 5 rfl) ?_
    refine lv_iload hx hb d_Y_ask_185 (hl.at 6 rfl) ?_
    refine lv_if_eq (tgt := 199) hx hb d_Y_ask_187 rfl (fun c71 => ?_) (fun c71 => ?_)
    · replace h := h.1 c71
      refine lv_iconst (v := (0 : Int32)) hx hb d_Y_ask_199 (by decide) ?_
      exact b_200 M68 H locs ls a0 x1 x2 x3 x4 x5 x6 (zR M68 a0 14) x5 (0 : Int32) (hl.sub [0, 1, 2, 3, 4, 5, 6] rfl) hM hS h
    · replace h := h.2 c71
      refine lv_aload_n hx hb d_Y_ask_190 rfl (hl.at 0 rfl) ?_
      refine z_getR hx hb hW in_9 hown hK hM t70 (by decide) rfl 23 (by decide) rfl (hW _ k_608) rfl d_Y_ask_191 ?_
      refine lv_iload_n hx hb d_Y_ask_194 rfl (hl.at 1 rfl) ?_
      obtain ⟨b79, hb80, h⟩ := h
      rw [hb80]
      obtain ⟨n82, t81, h⟩ := h
      obtain ⟨i83, h⟩ := h
      refine z_iald hx hb hK hM t81 0 rfl i83 d_Y_ask_195 ?_
      refine lv_goto (tgt := 200) hx hb d_Y_ask_196 rfl ?_
      exact b_200 M68 H locs ls a0 x1 x2 x3 x4 x5 x6 (zR M68 a0 14) x5 (zI M68 b79 x1.toNatClampNeg) (hl.sub [0, 1, 2, 3, 4, 5, 6] rfl) hM hS h
  have b_119 : ∀ (M : zM) (H : Heap) (locs : List Loc) (ls : Array Slot) (a0 : Nat) (x1 : Int32) (x2 : Int32) (x3 : Int32) (x4 : Int32) (x5 : Int32) (x6 : Int32), zL ls 7 [(0, .ref a0), (1, .int x1), (2, .int x2), (3, .int x3), (4, .int x4), (5, .int x5), (6, .int x6)] → zW ca D zcl A M H → va_S A s.heap H locs → w_Y_ask_119 post M a0 x1 x2 x3 x4 x5 x6 → W p l e rm_Y_ask s m args below meth c H locs 0 0 Q (F0 m 119 ls []) := by
    intro M H locs ls a0 x1 x2 x3 x4 x5 x6 hl hM hS h
    unfold w_Y_ask_119 at h
    refine lv_aload_n hx hb d_Y_ask_119 rfl (hl.at 0 rfl) ?_
    obtain ⟨t44, h⟩ := h
    refine z_getI hx hb hW in_9 hown hK hM t44 (by decide) rfl 37 (by decide) rfl (hW _ k_622) rfl d_Y_ask_120 ?_
    refine lv_if_eq (tgt := 138) hx hb d_Y_ask_123 rfl (fun c45 => ?_) (fun c45 => ?_)
    · replace h := h.1 c45
      refine lv_aload_n hx hb d_Y_ask_138 rfl (hl.at 0 rfl) ?_
      refine z_getR hx hb hW in_9 hown hK hM t44 (by decide) rfl 15 (by decide) rfl (hW _ k_600) rfl d_Y_ask_139 ?_
      refine lv_iload hx hb d_Y_ask_142 (hl.at 5 rfl) ?_
      refine lv_iconst (v := (1 : Int32)) hx hb d_Y_ask_144 (by decide) ?_
      obtain ⟨b46, hb47, h⟩ := h
      rw [hb47]
      obtain ⟨n49, t48, h⟩ := h
      obtain ⟨i50, h⟩ := h
      refine z_iast hx hb hK hM hS t48 0 rfl i50 d_Y_ask_145 (fun H locs hM hS => ?_)
      obtain ⟨M51, e52⟩ : ∃ z, z = zwI M b46 x5.toNatClampNeg (1 : Int32) := ⟨_, rfl⟩
      replace h := h M51 e52
      rw [← e52] at hM
      refine lv_aload_n hx hb d_Y_ask_146 rfl (hl.at 0 rfl) ?_
      have t53 : zT M51 a0 = some (9, 40) := by rw [e52]; exact t44
      refine z_getR hx hb hW in_9 hown hK hM t53 (by decide) rfl 13 (by decide) rfl (hW _ k_598) rfl d_Y_ask_147 ?_
      refine lv_iload hx hb d_Y_ask_150 (hl.at 5 rfl) ?_
      refine lv_aload_n hx hb d_Y_ask_152 rfl (hl.at 0 rfl) ?_
      refine z_getI hx hb hW in_9 hown hK hM t53 (by decide) rfl 5 (by decide) rfl (hW _ k_590) rfl d_Y_ask_153 ?_
      obtain ⟨b54, hb55, h⟩ := h
      rw [hb55]
      obtain ⟨n57, t56, h⟩ := h
      obtain ⟨i58, h⟩ := h
      refine z_iast hx hb hK hM hS t56 0 rfl i58 d_Y_ask_156 (fun H locs hM hS => ?_)
      obtain ⟨M59, e60⟩ : ∃ z, z = zwI M51 b54 x5.toNatClampNeg (zI M51 a0 5) := ⟨_, rfl⟩
      replace h := h M59 e60
      rw [← e60] at hM
      refine lv_aload_n hx hb d_Y_ask_157 rfl (hl.at 0 rfl) ?_
      have t61 : zT M59 a0 = some (9, 40) := by rw [e60]; exact t53
      refine z_getR hx hb hW in_9 hown hK hM t61 (by decide) rfl 12 (by decide) rfl (hW _ k_597) rfl d_Y_ask_158 ?_
      refine lv_iload hx hb d_Y_ask_161 (hl.at 5 rfl) ?_
      refine lv_iload hx hb d_Y_ask_163 (hl.at 6 rfl) ?_
      refine lv_if_eq (tgt := 177) hx hb d_Y_ask_165 rfl (fun c62 => ?_) (fun c62 => ?_)
      · replace h := h.1 c62
        refine lv_iconst (v := (0 : Int32)) hx hb d_Y_ask_177 (by decide) ?_
        exact b_178 M59 H locs ls a0 x1 x2 x3 x4 x5 x6 (zR M59 a0 12) x5 (0 : Int32) (hl.sub [0, 1, 2, 3, 4, 5, 6] rfl) hM hS h
      · replace h := h.2 c62
        refine lv_aload_n hx hb d_Y_ask_168 rfl (hl.at 0 rfl) ?_
        refine z_getR hx hb hW in_9 hown hK hM t61 (by decide) rfl 22 (by decide) rfl (hW _ k_607) rfl d_Y_ask_169 ?_
        refine lv_iload_n hx hb d_Y_ask_172 rfl (hl.at 1 rfl) ?_
        obtain ⟨b84, hb85, h⟩ := h
        rw [hb85]
        obtain ⟨n87, t86, h⟩ := h
        obtain ⟨i88, h⟩ := h
        refine z_iald hx hb hK hM t86 0 rfl i88 d_Y_ask_173 ?_
        refine lv_goto (tgt := 178) hx hb d_Y_ask_174 rfl ?_
        exact b_178 M59 H locs ls a0 x1 x2 x3 x4 x5 x6 (zR M59 a0 12) x5 (zI M59 b84 x1.toNatClampNeg) (hl.sub [0, 1, 2, 3, 4, 5, 6] rfl) hM hS h
    · replace h := h.2 c45
      refine lv_aload_n hx hb d_Y_ask_126 rfl (hl.at 0 rfl) ?_
      refine z_getR hx hb hW in_9 hown hK hM t44 (by decide) rfl 9 (by decide) rfl (hW _ k_594) rfl d_Y_ask_127 ?_
      refine lv_iload hx hb d_Y_ask_130 (hl.at 5 rfl) ?_
      refine lv_bipush (v := (7 : Int32)) hx hb d_Y_ask_132 (by decide) ?_
      obtain ⟨b89, hb90, h⟩ := h
      rw [hb90]
      obtain ⟨n92, t91, h⟩ := h
      obtain ⟨i93, h⟩ := h
      refine z_iast hx hb hK hM hS t91 0 rfl i93 d_Y_ask_134 (fun H locs hM hS => ?_)
      obtain ⟨M94, e95⟩ : ∃ z, z = zwI M b89 x5.toNatClampNeg (7 : Int32) := ⟨_, rfl⟩
      replace h := h M94 e95
      rw [← e95] at hM
      refine lv_goto (tgt := 201) hx hb d_Y_ask_135 rfl ?_
      exact b_201 M94 H locs ls a0 x1 x2 x3 x4 x5 x6 (hl.sub [0, 1, 2, 3, 4, 5, 6] rfl) hM hS h
  have b_63 : ∀ (M : zM) (H : Heap) (locs : List Loc) (ls : Array Slot) (a0 : Nat) (x1 : Int32) (x2 : Int32) (x3 : Int32) (x4 : Int32) (x5 : Int32) (u0 : Int32), zL ls 7 [(0, .ref a0), (1, .int x1), (2, .int x2), (3, .int x3), (4, .int x4), (5, .int x5)] → zW ca D zcl A M H → va_S A s.heap H locs → w_Y_ask_63 post M a0 x1 x2 x3 x4 x5 u0 → W p l e rm_Y_ask s m args below meth c H locs 0 0 Q (F0 m 63 ls [.int u0]) := by
    intro M H locs ls a0 x1 x2 x3 x4 x5 u0 hl hM hS h
    unfold w_Y_ask_63 at h
    refine z_istore hx hb d_Y_ask_63 hl (by decide) rfl (fun ls hl => ?_)
    have hl : zL ls 7 [(6, .int u0), (0, .ref a0), (1, .int x1), (2, .int x2), (3, .int x3), (4, .int x4), (5, .int x5)] := hl
    refine lv_iload_n hx hb d_Y_ask_65 rfl (hl.at 3 rfl) ?_
    refine lv_if_ne (tgt := 119) hx hb d_Y_ask_66 rfl (fun c43 => ?_) (fun c43 => ?_)
    · replace h := h.2 c43
      exact b_119 M H locs ls a0 x1 x2 x3 x4 x5 u0 (hl.sub [1, 2, 3, 4, 5, 6, 0] rfl) hM hS h
    · replace h := h.1 c43
      refine lv_iload hx hb d_Y_ask_69 (hl.at 0 rfl) ?_
      refine lv_if_eq (tgt := 119) hx hb d_Y_ask_71 rfl (fun c96 => ?_) (fun c96 => ?_)
      · replace h := h.1 c96
        exact b_119 M H locs ls a0 x1 x2 x3 x4 x5 u0 (hl.sub [1, 2, 3, 4, 5, 6, 0] rfl) hM hS h
      · replace h := h.2 c96
        refine lv_aload_n hx hb d_Y_ask_74 rfl (hl.at 1 rfl) ?_
        obtain ⟨t97, h⟩ := h
        refine z_getI hx hb hW in_9 hown hK hM t97 (by decide) rfl 5 (by decide) rfl (hW _ k_590) rfl d_Y_ask_75 ?_
        refine lv_aload_n hx hb d_Y_ask_78 rfl (hl.at 1 rfl) ?_
        refine z_getR hx hb hW in_9 hown hK hM t97 (by decide) rfl 25 (by decide) rfl (hW _ k_610) rfl d_Y_ask_79 ?_
        refine lv_iload_n hx hb d_Y_ask_82 rfl (hl.at 2 rfl) ?_
        obtain ⟨b98, hb99, h⟩ := h
        rw [hb99]
        obtain ⟨n101, t100, h⟩ := h
        obtain ⟨i102, h⟩ := h
        refine z_iald hx hb hK hM t100 0 rfl i102 d_Y_ask_83 ?_
        refine lv_isub hx hb d_Y_ask_84 ?_
        refine lv_aload_n hx hb d_Y_ask_85 rfl (hl.at 1 rfl) ?_
        refine z_getR hx hb hW in_9 hown hK hM t97 (by decide) rfl 24 (by decide) rfl (hW _ k_609) rfl d_Y_ask_86 ?_
        refine lv_iload_n hx hb d_Y_ask_89 rfl (hl.at 2 rfl) ?_
        obtain ⟨b103, hb104, h⟩ := h
        rw [hb104]
        obtain ⟨n106, t105, h⟩ := h
        obtain ⟨i107, h⟩ := h
        refine z_iald hx hb hK hM t105 0 rfl i107 d_Y_ask_90 ?_
        refine lv_icmp_ge (tgt := 119) hx hb d_Y_ask_91 rfl (fun c108 => ?_) (fun c108 => ?_)
        · replace h := h.1 c108
          exact b_119 M H locs ls a0 x1 x2 x3 x4 x5 u0 (hl.sub [1, 2, 3, 4, 5, 6, 0] rfl) hM hS h
        · replace h := h.2 c108
          refine lv_aload_n hx hb d_Y_ask_94 rfl (hl.at 1 rfl) ?_
          refine z_getR hx hb hW in_9 hown hK hM t97 (by decide) rfl 9 (by decide) rfl (hW _ k_594) rfl d_Y_ask_95 ?_
          refine lv_iload hx hb d_Y_ask_98 (hl.at 6 rfl) ?_
          refine lv_bipush (v := (8 : Int32)) hx hb d_Y_ask_100 (by decide) ?_
          obtain ⟨b109, hb110, h⟩ := h
          rw [hb110]
          obtain ⟨n112, t111, h⟩ := h
          obtain ⟨i113, h⟩ := h
          refine z_iast hx hb hK hM hS t111 0 rfl i113 d_Y_ask_102 (fun H locs hM hS => ?_)
          obtain ⟨M114, e115⟩ : ∃ z, z = zwI M b109 x5.toNatClampNeg (8 : Int32) := ⟨_, rfl⟩
          replace h := h M114 e115
          rw [← e115] at hM
          refine lv_aload_n hx hb d_Y_ask_103 rfl (hl.at 1 rfl) ?_
          have t116 : zT M114 a0 = some (9, 40) := by rw [e115]; exact t97
          refine z_getR hx hb hW in_9 hown hK hM t116 (by decide) rfl 14 (by decide) rfl (hW _ k_599) rfl d_Y_ask_104 ?_
          refine lv_iload hx hb d_Y_ask_107 (hl.at 6 rfl) ?_
          refine lv_aload_n hx hb d_Y_ask_109 rfl (hl.at 1 rfl) ?_
          refine z_getR hx hb hW in_9 hown hK hM t116 (by decide) rfl 23 (by decide) rfl (hW _ k_608) rfl d_Y_ask_110 ?_
          refine lv_iload_n hx hb d_Y_ask_113 rfl (hl.at 2 rfl) ?_
          obtain ⟨b117, hb118, h⟩ := h
          rw [hb118]
          obtain ⟨n120, t119, h⟩ := h
          obtain ⟨i121, h⟩ := h
          refine z_iald hx hb hK hM t119 0 rfl i121 d_Y_ask_114 ?_
          obtain ⟨b122, hb123, h⟩ := h
          rw [hb123]
          obtain ⟨n125, t124, h⟩ := h
          obtain ⟨i126, h⟩ := h
          refine z_iast hx hb hK hM hS t124 0 rfl i126 d_Y_ask_115 (fun H locs hM hS => ?_)
          obtain ⟨M127, e128⟩ : ∃ z, z = zwI M114 b122 x5.toNatClampNeg (zI M114 b117 x1.toNatClampNeg) := ⟨_, rfl⟩
          replace h := h M127 e128
          rw [← e128] at hM
          refine lv_goto (tgt := 201) hx hb d_Y_ask_116 rfl ?_
          exact b_201 M127 H locs ls a0 x1 x2 x3 x4 x5 u0 (hl.sub [1, 2, 3, 4, 5, 6, 0] rfl) hM hS h
  have b_start : ∀ (M : zM) (H : Heap) (locs : List Loc) (ls : Array Slot) (a0 : Nat) (x1 : Int32) (x2 : Int32) (x3 : Int32) (x4 : Int32), zL ls 7 [(0, .ref a0), (1, .int x1), (2, .int x2), (3, .int x3), (4, .int x4)] → zW ca D zcl A M H → va_S A s.heap H locs → w_Y_ask M a0 x1 x2 x3 x4 post → W p l e rm_Y_ask s m args below meth c H locs 0 0 Q (F0 m 0 ls []) := by
    intro M H locs ls a0 x1 x2 x3 x4 hl hM hS h
    unfold w_Y_ask at h
    refine lv_aload_n hx hb d_Y_ask_0 rfl (hl.at 0 rfl) ?_
    obtain ⟨t1, h⟩ := h
    refine z_getI hx hb hW in_9 hown hK hM t1 (by decide) rfl 6 (by decide) rfl (hW _ k_591) rfl d_Y_ask_1 ?_
    refine z_istore hx hb d_Y_ask_4 hl (by decide) rfl (fun ls hl => ?_)
    have hl : zL ls 7 [(5, .int (zI M a0 6)), (0, .ref a0), (1, .int x1), (2, .int x2), (3, .int x3), (4, .int x4)] := hl
    refine lv_aload_n hx hb d_Y_ask_6 rfl (hl.at 1 rfl) ?_
    refine lv_dup hx hb d_Y_ask_7 rfl ?_
    refine z_getI hx hb hW in_9 hown hK hM t1 (by decide) rfl 6 (by decide) rfl (hW _ k_591) rfl d_Y_ask_8 ?_
    refine lv_iconst (v := (1 : Int32)) hx hb d_Y_ask_11 (by decide) ?_
    refine lv_iadd hx hb d_Y_ask_12 ?_
    refine z_putI hx hb hW in_9 ty_9 tyok_9 nm_9 hown hK hM hS t1 (by decide) rfl 6 (by decide) rfl (hW _ k_591) rfl (Or.inl rfl) rfl rfl d_Y_ask_13 (fun H locs hM hS => ?_)
    obtain ⟨M2, e3⟩ : ∃ z, z = zwI M a0 6 ((zI M a0 6) + (1 : Int32)) := ⟨_, rfl⟩
    replace h := h M2 e3
    rw [← e3] at hM
    refine lv_aload_n hx hb d_Y_ask_16 rfl (hl.at 1 rfl) ?_
    have t4 : zT M2 a0 = some (9, 40) := by rw [e3]; exact t1
    refine z_getR hx hb hW in_9 hown hK hM t4 (by decide) rfl 7 (by decide) rfl (hW _ k_592) rfl d_Y_ask_17 ?_
    refine lv_iload hx hb d_Y_ask_20 (hl.at 0 rfl) ?_
    refine lv_iload_n hx hb d_Y_ask_22 rfl (hl.at 3 rfl) ?_
    obtain ⟨b5, hb6, h⟩ := h
    rw [hb6]
    obtain ⟨n8, t7, h⟩ := h
    obtain ⟨i9, h⟩ := h
    refine z_zast hx hb hK hM hS t7 1 rfl i9 d_Y_ask_23 (fun H locs hM hS => ?_)
    obtain ⟨M10, e11⟩ : ∃ z, z = zwI M2 b5 (zI M a0 6).toNatClampNeg (vp_nar .boolean x2) := ⟨_, rfl⟩
    replace h := h M10 e11
    rw [← e11] at hM
    refine lv_aload_n hx hb d_Y_ask_24 rfl (hl.at 1 rfl) ?_
    have t12 : zT M10 a0 = some (9, 40) := by rw [e11]; exact t4
    refine z_getR hx hb hW in_9 hown hK hM t12 (by decide) rfl 8 (by decide) rfl (hW _ k_593) rfl d_Y_ask_25 ?_
    refine lv_iload hx hb d_Y_ask_28 (hl.at 0 rfl) ?_
    refine lv_iload_n hx hb d_Y_ask_30 rfl (hl.at 2 rfl) ?_
    obtain ⟨b13, hb14, h⟩ := h
    rw [hb14]
    obtain ⟨n16, t15, h⟩ := h
    obtain ⟨i17, h⟩ := h
    refine z_iast hx hb hK hM hS t15 0 rfl i17 d_Y_ask_31 (fun H locs hM hS => ?_)
    obtain ⟨M18, e19⟩ : ∃ z, z = zwI M10 b13 (zI M a0 6).toNatClampNeg x1 := ⟨_, rfl⟩
    replace h := h M18 e19
    rw [← e19] at hM
    refine lv_aload_n hx hb d_Y_ask_32 rfl (hl.at 1 rfl) ?_
    have t20 : zT M18 a0 = some (9, 40) := by rw [e19]; exact t12
    refine z_getR hx hb hW in_9 hown hK hM t20 (by decide) rfl 10 (by decide) rfl (hW _ k_595) rfl d_Y_ask_33 ?_
    refine lv_iload hx hb d_Y_ask_36 (hl.at 0 rfl) ?_
    refine lv_iload_n hx hb d_Y_ask_38 rfl (hl.at 4 rfl) ?_
    obtain ⟨b21, hb22, h⟩ := h
    rw [hb22]
    obtain ⟨n24, t23, h⟩ := h
    obtain ⟨i25, h⟩ := h
    refine z_iast hx hb hK hM hS t23 0 rfl i25 d_Y_ask_39 (fun H locs hM hS => ?_)
    obtain ⟨M26, e27⟩ : ∃ z, z = zwI M18 b21 (zI M a0 6).toNatClampNeg x3 := ⟨_, rfl⟩
    replace h := h M26 e27
    rw [← e27] at hM
    refine lv_aload_n hx hb d_Y_ask_40 rfl (hl.at 1 rfl) ?_
    have t28 : zT M26 a0 = some (9, 40) := by rw [e27]; exact t20
    refine z_getR hx hb hW in_9 hown hK hM t28 (by decide) rfl 11 (by decide) rfl (hW _ k_596) rfl d_Y_ask_41 ?_
    refine lv_iload hx hb d_Y_ask_44 (hl.at 0 rfl) ?_
    refine lv_iload hx hb d_Y_ask_46 (hl.at 5 rfl) ?_
    obtain ⟨b29, hb30, h⟩ := h
    rw [hb30]
    obtain ⟨n32, t31, h⟩ := h
    obtain ⟨i33, h⟩ := h
    refine z_iast hx hb hK hM hS t31 0 rfl i33 d_Y_ask_48 (fun H locs hM hS => ?_)
    obtain ⟨M34, e35⟩ : ∃ z, z = zwI M26 b29 (zI M a0 6).toNatClampNeg x4 := ⟨_, rfl⟩
    replace h := h M34 e35
    rw [← e35] at hM
    refine lv_aload_n hx hb d_Y_ask_49 rfl (hl.at 1 rfl) ?_
    have t36 : zT M34 a0 = some (9, 40) := by rw [e35]; exact t28
    refine z_getR hx hb hW in_9 hown hK hM t36 (by decide) rfl 21 (by decide) rfl (hW _ k_606) rfl d_Y_ask_50 ?_
    refine lv_iload_n hx hb d_Y_ask_53 rfl (hl.at 2 rfl) ?_
    obtain ⟨b37, hb38, h⟩ := h
    rw [hb38]
    obtain ⟨n40, t39, h⟩ := h
    obtain ⟨i41, h⟩ := h
    refine z_iald hx hb hK hM t39 0 rfl i41 d_Y_ask_54 ?_
    refine lv_if_lt (tgt := 62) hx hb d_Y_ask_55 rfl (fun c42 => ?_) (fun c42 => ?_)
    · replace h := h.1 c42
      refine lv_iconst (v := (0 : Int32)) hx hb d_Y_ask_62 (by decide) ?_
      exact b_63 M34 H locs ls a0 x1 x2 x3 x4 (zI M a0 6) (0 : Int32) (hl.sub [1, 2, 3, 4, 5, 0] rfl) hM hS h
    · replace h := h.2 c42
      refine lv_iconst (v := (1 : Int32)) hx hb d_Y_ask_58 (by decide) ?_
      refine lv_goto (tgt := 63) hx hb d_Y_ask_59 rfl ?_
      exact b_63 M34 H locs ls a0 x1 x2 x3 x4 (zI M a0 6) (1 : Int32) (hl.sub [1, 2, 3, 4, 5, 0] rfl) hM hS h
  exact b_start M s.heap [] ls a0 x1 x2 x3 x4 hl hM hS h
set_option maxHeartbeats 4000000 in
set_option maxRecDepth 100000 in
theorem c_Y_get (l : Launch) (ca : Nat → ClassId) (D : va_G) (M : zM) (sz : Nat) (a0 : Nat) (x1 : Int32) (post : Int32 → zM → Prop) : Met l y_Y_get (Cond.code y_Y_get prog_11_method_19_code 2 (some .int) :: zws) rm_Y_get (zPre ca D zcl (ztys ca) [.ref a0, .int x1] M sz (w_Y_get M a0 x1 post)) (va_Qi post (zB ca D zcl (ztys ca) (zA M sz)) (zA M sz)) 0 0 (zA M sz) := by
  refine z_met (cc := prog_11_method_19_code) (maxL := 2) (ret := (some .int)) (plainFor_of_name (by decide)) rfl (by simp [Value.category]) (Nat.le_of_ble_eq_true rfl) ?_
  intro p e s m args below meth c ls A hx hb hr hlk hml hts hown hnm hK hN hl hA0 hM hS hA h
  rw [← hA0]
  have hW : ∀ w ∈ zws, w.before args s = true := fun w hw => hts w (List.mem_cons_of_mem _ hw)
  have hl : zL ls 2 [(0, .ref a0), (1, .int x1)] := hl
  generalize hQ : MQ below (va_Qi post (zB ca D zcl (ztys ca) A) A) args s 0 0 A = Q
  have b_start : ∀ (M : zM) (H : Heap) (locs : List Loc) (ls : Array Slot) (a0 : Nat) (x1 : Int32), zL ls 2 [(0, .ref a0), (1, .int x1)] → zW ca D zcl A M H → va_S A s.heap H locs → w_Y_get M a0 x1 post → W p l e rm_Y_get s m args below meth c H locs 0 0 Q (F0 m 0 ls []) := by
    intro M H locs ls a0 x1 hl hM hS h
    unfold w_Y_get at h
    refine lv_iload_n hx hb d_Y_get_0 rfl (hl.at 1 rfl) ?_
    refine lv_iconst (v := (5 : Int32)) hx hb d_Y_get_1 (by decide) ?_
    refine z_cti (mc := 0) (ms := 0) (va_runS (As := [.int x1, .int (5 : Int32)]) (rest := []) ⟨hx, hb, hml, hown, hW⟩ (c_Y_within l ca D M H.size x1 (5 : Int32) _) (cw_Y_within hW k_711 ⟨by decide, by decide⟩) (zPre_S hK hN hM h) rfl rfl hl.1.1 rfl (lv_room (Nat.le_of_ble_eq_true rfl)) d_Y_get_2 ⟨by decide, by decide⟩) hM hS hA (fun r1 M2 H locs h hM hS => ?_)
    refine lv_if_eq (tgt := 28) hx hb d_Y_get_5 rfl (fun c3 => ?_) (fun c3 => ?_)
    · replace h := h.1 c3
      refine lv_iconst (v := (-1 : Int32)) hx hb d_Y_get_28 (by decide) ?_
      refine W.widen (k := 0) (n := 0) (by decide) (by decide) ?_
      rw [← hQ]
      exact z_iret hx hb hr hlk hK hM hS h d_Y_get_29
    · replace h := h.2 c3
      refine lv_aload_n hx hb d_Y_get_8 rfl (hl.at 0 rfl) ?_
      obtain ⟨t4, h⟩ := h
      refine z_getI hx hb hW in_9 hown hK hM t4 (by decide) rfl 6 (by decide) rfl (hW _ k_591) rfl d_Y_get_9 ?_
      refine lv_bipush (v := (60 : Int32)) hx hb d_Y_get_12 (by decide) ?_
      refine lv_icmp_ge (tgt := 28) hx hb d_Y_get_14 rfl (fun c5 => ?_) (fun c5 => ?_)
      · replace h := h.1 c5
        refine lv_iconst (v := (-1 : Int32)) hx hb d_Y_get_28 (by decide) ?_
        refine W.widen (k := 0) (n := 0) (by decide) (by decide) ?_
        rw [← hQ]
        exact z_iret hx hb hr hlk hK hM hS h d_Y_get_29
      · replace h := h.2 c5
        refine lv_aload_n hx hb d_Y_get_17 rfl (hl.at 0 rfl) ?_
        refine lv_iload_n hx hb d_Y_get_18 rfl (hl.at 1 rfl) ?_
        refine lv_iconst (v := (0 : Int32)) hx hb d_Y_get_19 (by decide) ?_
        refine lv_iconst (v := (0 : Int32)) hx hb d_Y_get_20 (by decide) ?_
        refine lv_iconst (v := (0 : Int32)) hx hb d_Y_get_21 (by decide) ?_
        refine z_cti (mc := 0) (ms := 0) (va_runV (As := [.int x1, .int (0 : Int32), .int (0 : Int32), .int (0 : Int32)]) (rest := []) ⟨hx, hb, hml, hown, hW⟩ (c_Y_ask l ca D M2 H.size a0 x1 (0 : Int32) (0 : Int32) (0 : Int32) _) (cw_Y_ask hW k_770 ⟨by decide, by decide⟩) (zPre_V hK hN hM h t4 (by decide) rfl) rfl rfl hl.1.1 rfl (lv_room (Nat.le_of_ble_eq_true rfl)) d_Y_get_22 ⟨by decide, by decide⟩) hM hS hA (fun r6 M7 H locs h hM hS => ?_)
        refine lv_goto (tgt := 29) hx hb d_Y_get_25 rfl ?_
        refine W.widen (k := 0) (n := 0) (by decide) (by decide) ?_
        rw [← hQ]
        exact z_iret hx hb hr hlk hK hM hS h d_Y_get_29
  exact b_start M s.heap [] ls a0 x1 hl hM hS h
set_option maxHeartbeats 4000000 in
set_option maxRecDepth 100000 in
theorem c_Y_replace (l : Launch) (ca : Nat → ClassId) (D : va_G) (M : zM) (sz : Nat) (a0 : Nat) (x1 : Int32) (x2 : Int32) (x3 : Int32) (post : Int32 → zM → Prop) : Met l y_Y_replace (Cond.code y_Y_replace prog_11_method_20_code 4 (some .int) :: zws) rm_Y_replace (zPre ca D zcl (ztys ca) [.ref a0, .int x1, .int x2, .int x3] M sz (w_Y_replace M a0 x1 x2 x3 post)) (va_Qi post (zB ca D zcl (ztys ca) (zA M sz)) (zA M sz)) 0 0 (zA M sz) := by
  refine z_met (cc := prog_11_method_20_code) (maxL := 4) (ret := (some .int)) (plainFor_of_name (by decide)) rfl (by simp [Value.category]) (Nat.le_of_ble_eq_true rfl) ?_
  intro p e s m args below meth c ls A hx hb hr hlk hml hts hown hnm hK hN hl hA0 hM hS hA h
  rw [← hA0]
  have hW : ∀ w ∈ zws, w.before args s = true := fun w hw => hts w (List.mem_cons_of_mem _ hw)
  have hl : zL ls 4 [(0, .ref a0), (1, .int x1), (2, .int x2), (3, .int x3)] := hl
  generalize hQ : MQ below (va_Qi post (zB ca D zcl (ztys ca) A) A) args s 0 0 A = Q
  have b_start : ∀ (M : zM) (H : Heap) (locs : List Loc) (ls : Array Slot) (a0 : Nat) (x1 : Int32) (x2 : Int32) (x3 : Int32), zL ls 4 [(0, .ref a0), (1, .int x1), (2, .int x2), (3, .int x3)] → zW ca D zcl A M H → va_S A s.heap H locs → w_Y_replace M a0 x1 x2 x3 post → W p l e rm_Y_replace s m args below meth c H locs 0 0 Q (F0 m 0 ls []) := by
    intro M H locs ls a0 x1 x2 x3 hl hM hS h
    unfold w_Y_replace at h
    refine lv_iload_n hx hb d_Y_replace_0 rfl (hl.at 1 rfl) ?_
    refine lv_iconst (v := (5 : Int32)) hx hb d_Y_replace_1 (by decide) ?_
    refine z_cti (mc := 0) (ms := 0) (va_runS (As := [.int x1, .int (5 : Int32)]) (rest := []) ⟨hx, hb, hml, hown, hW⟩ (c_Y_within l ca D M H.size x1 (5 : Int32) _) (cw_Y_within hW k_711 ⟨by decide, by decide⟩) (zPre_S hK hN hM h) rfl rfl hl.1.1 rfl (lv_room (Nat.le_of_ble_eq_true rfl)) d_Y_replace_2 ⟨by decide, by decide⟩) hM hS hA (fun r1 M2 H locs h hM hS => ?_)
    refine lv_if_eq (tgt := 38) hx hb d_Y_replace_5 rfl (fun c3 => ?_) (fun c3 => ?_)
    · replace h := h.1 c3
      refine lv_iconst (v := (-1 : Int32)) hx hb d_Y_replace_38 (by decide) ?_
      refine W.widen (k := 0) (n := 0) (by decide) (by decide) ?_
      rw [← hQ]
      exact z_iret hx hb hr hlk hK hM hS h d_Y_replace_39
    · replace h := h.2 c3
      refine lv_iload_n hx hb d_Y_replace_8 rfl (hl.at 3 rfl) ?_
      refine lv_sipush (v := (1000 : Int32)) hx hb d_Y_replace_9 (by decide) ?_
      refine z_cti (mc := 0) (ms := 0) (va_runS (As := [.int x3, .int (1000 : Int32)]) (rest := []) ⟨hx, hb, hml, hown, hW⟩ (c_Y_within l ca D M2 H.size x3 (1000 : Int32) _) (cw_Y_within hW k_711 ⟨by decide, by decide⟩) (zPre_S hK hN hM h) rfl rfl hl.1.1 rfl (lv_room (Nat.le_of_ble_eq_true rfl)) d_Y_replace_12 ⟨by decide, by decide⟩) hM hS hA (fun r4 M5 H locs h hM hS => ?_)
      refine lv_if_eq (tgt := 38) hx hb d_Y_replace_15 rfl (fun c6 => ?_) (fun c6 => ?_)
      · replace h := h.1 c6
        refine lv_iconst (v := (-1 : Int32)) hx hb d_Y_replace_38 (by decide) ?_
        refine W.widen (k := 0) (n := 0) (by decide) (by decide) ?_
        rw [← hQ]
        exact z_iret hx hb hr hlk hK hM hS h d_Y_replace_39
      · replace h := h.2 c6
        refine lv_aload_n hx hb d_Y_replace_18 rfl (hl.at 0 rfl) ?_
        obtain ⟨t7, h⟩ := h
        refine z_getI hx hb hW in_9 hown hK hM t7 (by decide) rfl 6 (by decide) rfl (hW _ k_591) rfl d_Y_replace_19 ?_
        refine lv_bipush (v := (60 : Int32)) hx hb d_Y_replace_22 (by decide) ?_
        refine lv_icmp_ge (tgt := 38) hx hb d_Y_replace_24 rfl (fun c8 => ?_) (fun c8 => ?_)
        · replace h := h.1 c8
          refine lv_iconst (v := (-1 : Int32)) hx hb d_Y_replace_38 (by decide) ?_
          refine W.widen (k := 0) (n := 0) (by decide) (by decide) ?_
          rw [← hQ]
          exact z_iret hx hb hr hlk hK hM hS h d_Y_replace_39
        · replace h := h.2 c8
          refine lv_aload_n hx hb d_Y_replace_27 rfl (hl.at 0 rfl) ?_
          refine lv_iload_n hx hb d_Y_replace_28 rfl (hl.at 1 rfl) ?_
          refine lv_iconst (v := (1 : Int32)) hx hb d_Y_replace_29 (by decide) ?_
          refine lv_iload_n hx hb d_Y_replace_30 rfl (hl.at 2 rfl) ?_
          refine lv_iload_n hx hb d_Y_replace_31 rfl (hl.at 3 rfl) ?_
          refine z_cti (mc := 0) (ms := 0) (va_runV (As := [.int x1, .int (1 : Int32), .int x2, .int x3]) (rest := []) ⟨hx, hb, hml, hown, hW⟩ (c_Y_ask l ca D M5 H.size a0 x1 (1 : Int32) x2 x3 _) (cw_Y_ask hW k_770 ⟨by decide, by decide⟩) (zPre_V hK hN hM h t7 (by decide) rfl) rfl rfl hl.1.1 rfl (lv_room (Nat.le_of_ble_eq_true rfl)) d_Y_replace_32 ⟨by decide, by decide⟩) hM hS hA (fun r9 M10 H locs h hM hS => ?_)
          refine lv_goto (tgt := 39) hx hb d_Y_replace_35 rfl ?_
          refine W.widen (k := 0) (n := 0) (by decide) (by decide) ?_
          rw [← hQ]
          exact z_iret hx hb hr hlk hK hM hS h d_Y_replace_39
  exact b_start M s.heap [] ls a0 x1 x2 x3 hl hM hS h
set_option maxHeartbeats 4000000 in
set_option maxRecDepth 100000 in
theorem c_Y_read (l : Launch) (ca : Nat → ClassId) (D : va_G) (M : zM) (sz : Nat) (a0 : Nat) (x1 : Int32) (post : Int32 → zM → Prop) : Met l y_Y_read (Cond.code y_Y_read prog_11_method_21_code 5 (some .int) :: zws) rm_Y_read (zPre ca D zcl (ztys ca) [.ref a0, .int x1] M sz (w_Y_read M a0 x1 post)) (va_Qi post (zB ca D zcl (ztys ca) (zA M sz)) (zA M sz)) 0 0 (zA M sz) := by
  refine z_met (cc := prog_11_method_21_code) (maxL := 5) (ret := (some .int)) (plainFor_of_name (by decide)) rfl (by simp [Value.category]) (Nat.le_of_ble_eq_true rfl) ?_
  intro p e s m args below meth c ls A hx hb hr hlk hml hts hown hnm hK hN hl hA0 hM hS hA h
  rw [← hA0]
  have hW : ∀ w ∈ zws, w.before args s = true := fun w hw => hts w (List.mem_cons_of_mem _ hw)
  have hl : zL ls 5 [(0, .ref a0), (1, .int x1)] := hl
  generalize hQ : MQ below (va_Qi post (zB ca D zcl (ztys ca) A) A) args s 0 0 A = Q
  have b_283 : ∀ (M : zM) (H : Heap) (locs : List Loc) (ls : Array Slot) (a0 : Nat) (x1 : Int32) (x2 : Int32) (x3 : Int32) (x4 : Int32), zL ls 5 [(0, .ref a0), (1, .int x1), (2, .int x2), (3, .int x3), (4, .int x4)] → zW ca D zcl A M H → va_S A s.heap H locs → w_Y_read_283 post M a0 x1 x2 x3 x4 → W p l e rm_Y_read s m args below meth c H locs 0 0 Q (F0 m 283 ls []) := by
    intro M H locs ls a0 x1 x2 x3 x4 hl hM hS h
    unfold w_Y_read_283 at h
    refine lv_aload_n hx hb d_Y_read_283 rfl (hl.at 0 rfl) ?_
    obtain ⟨t56, h⟩ := h
    refine z_getR hx hb hW in_9 hown hK hM t56 (by decide) rfl 9 (by decide) rfl (hW _ k_594) rfl d_Y_read_284 ?_
    refine lv_iload_n hx hb d_Y_read_287 rfl (hl.at 1 rfl) ?_
    obtain ⟨b57, hb58, h⟩ := h
    rw [hb58]
    obtain ⟨n60, t59, h⟩ := h
    obtain ⟨i61, h⟩ := h
    refine z_iald hx hb hK hM t59 0 rfl i61 d_Y_read_288 ?_
    rw [← hQ]
    exact z_iret hx hb hr hlk hK hM hS h d_Y_read_289
  have b_269 : ∀ (M : zM) (H : Heap) (locs : List Loc) (ls : Array Slot) (a0 : Nat) (x1 : Int32) (x2 : Int32) (x3 : Int32) (x4 : Int32), zL ls 5 [(0, .ref a0), (1, .int x1), (2, .int x2), (3, .int x3), (4, .int x4)] → zW ca D zcl A M H → va_S A s.heap H locs → w_Y_read_269 post M a0 x1 x2 x3 x4 → W p l e rm_Y_read s m args below meth c H locs 0 0 Q (F0 m 269 ls []) := by
    intro M H locs ls a0 x1 x2 x3 x4 hl hM hS h
    unfold w_Y_read_269 at h
    refine lv_aload_n hx hb d_Y_read_269 rfl (hl.at 0 rfl) ?_
    refine lv_iload_n hx hb d_Y_read_270 rfl (hl.at 1 rfl) ?_
    obtain ⟨t52, h⟩ := h
    refine z_cti (mc := 0) (ms := 0) (va_runV (As := [.int x1]) (rest := []) ⟨hx, hb, hml, hown, hW⟩ (c_Y_need l ca D M H.size a0 x1 _) (cw_Y_need hW k_738 ⟨by decide, by decide⟩) (zPre_V hK hN hM h t52 (by decide) rfl) rfl rfl hl.1.1 rfl (lv_room (Nat.le_of_ble_eq_true rfl)) d_Y_read_271 ⟨by decide, by decide⟩) hM hS hA (fun r53 M54 H locs h hM hS => ?_)
    refine lv_if_le (tgt := 283) hx hb d_Y_read_274 rfl (fun c55 => ?_) (fun c55 => ?_)
    · replace h := h.1 c55
      refine W.widen (k := 0) (n := 0) (by decide) (by decide) ?_
      exact b_283 M54 H locs ls a0 x1 x2 x3 x4 (hl.sub [0, 1, 2, 3, 4] rfl) hM hS h
    · replace h := h.2 c55
      refine lv_aload_n hx hb d_Y_read_277 rfl (hl.at 0 rfl) ?_
      refine lv_iconst (v := (0 : Int32)) hx hb d_Y_read_278 (by decide) ?_
      refine lv_iload_n hx hb d_Y_read_279 rfl (hl.at 1 rfl) ?_
      obtain ⟨t62, h⟩ := h
      refine z_ctv (mc := 0) (ms := 0) (va_runV (As := [.int (0 : Int32), .int x1]) (rest := []) ⟨hx, hb, hml, hown, hW⟩ (c_Y_tell l ca D M54 H.size a0 (0 : Int32) x1 _) (cw_Y_tell hW k_786 ⟨by decide, by decide⟩) (zPre_V hK hN hM h t62 (by decide) rfl) rfl rfl hl.1.1 rfl (lv_room (Nat.le_of_ble_eq_true rfl)) d_Y_read_280 ⟨by decide, by decide⟩) hM hS hA (fun M63 H locs h hM hS => ?_)
      refine W.widen (k := 0) (n := 0) (by decide) (by decide) ?_
      exact b_283 M63 H locs ls a0 x1 x2 x3 x4 (hl.sub [0, 1, 2, 3, 4] rfl) hM hS h
  have b_268 : ∀ (M : zM) (H : Heap) (locs : List Loc) (ls : Array Slot) (a0 : Nat) (x1 : Int32) (x2 : Int32) (x3 : Int32) (x4 : Int32) (w0 : Option Nat) (u1 : Int32) (u2 : Int32), zL ls 5 [(0, .ref a0), (1, .int x1), (2, .int x2), (3, .int x3), (4, .int x4)] → zW ca D zcl A M H → va_S A s.heap H locs → w_Y_read_268 post M a0 x1 x2 x3 x4 w0 u1 u2 → W p l e rm_Y_read s m args below meth c H locs 0 0 Q (F0 m 268 ls [.int u2, .int u1, va_rf w0]) := by
    intro M H locs ls a0 x1 x2 x3 x4 w0 u1 u2 hl hM hS h
    unfold w_Y_read_268 at h
    obtain ⟨b45, hb46, h⟩ := h
    subst hb46
    obtain ⟨n48, t47, h⟩ := h
    obtain ⟨i49, h⟩ := h
    refine z_iast hx hb hK hM hS t47 0 rfl i49 d_Y_read_268 (fun H locs hM hS => ?_)
    obtain ⟨M50, e51⟩ : ∃ z, z = zwI M b45 u1.toNatClampNeg u2 := ⟨_, rfl⟩
    replace h := h M50 e51
    rw [← e51] at hM
    exact b_269 M50 H locs ls a0 x1 x2 x3 x4 (hl.sub [0, 1, 2, 3, 4] rfl) hM hS h
  have b_247 : ∀ (M : zM) (H : Heap) (locs : List Loc) (ls : Array Slot) (a0 : Nat) (x1 : Int32) (x2 : Int32) (x3 : Int32) (x4 : Int32) (w0 : Option Nat) (u1 : Int32) (u2 : Int32), zL ls 5 [(0, .ref a0), (1, .int x1), (2, .int x2), (3, .int x3), (4, .int x4)] → zW ca D zcl A M H → va_S A s.heap H locs → w_Y_read_247 post M a0 x1 x2 x3 x4 w0 u1 u2 → W p l e rm_Y_read s m args below meth c H locs 0 0 Q (F0 m 247 ls [.int u2, .int u1, va_rf w0]) := by
    intro M H locs ls a0 x1 x2 x3 x4 w0 u1 u2 hl hM hS h
    unfold w_Y_read_247 at h
    obtain ⟨b31, hb32, h⟩ := h
    subst hb32
    obtain ⟨n34, t33, h⟩ := h
    obtain ⟨i35, h⟩ := h
    refine z_iast hx hb hK hM hS t33 0 rfl i35 d_Y_read_247 (fun H locs hM hS => ?_)
    obtain ⟨M36, e37⟩ : ∃ z, z = zwI M b31 u1.toNatClampNeg u2 := ⟨_, rfl⟩
    replace h := h M36 e37
    rw [← e37] at hM
    refine lv_aload_n hx hb d_Y_read_248 rfl (hl.at 0 rfl) ?_
    obtain ⟨t38, h⟩ := h
    refine z_getR hx hb hW in_9 hown hK hM t38 (by decide) rfl 21 (by decide) rfl (hW _ k_606) rfl d_Y_read_249 ?_
    refine lv_iload_n hx hb d_Y_read_252 rfl (hl.at 2 rfl) ?_
    refine lv_iload hx hb d_Y_read_253 (hl.at 4 rfl) ?_
    refine lv_if_eq (tgt := 262) hx hb d_Y_read_255 rfl (fun c39 => ?_) (fun c39 => ?_)
    · replace h := h.1 c39
      refine lv_aload_n hx hb d_Y_read_262 rfl (hl.at 0 rfl) ?_
      refine z_getR hx hb hW in_9 hown hK hM t38 (by decide) rfl 21 (by decide) rfl (hW _ k_606) rfl d_Y_read_263 ?_
      refine lv_iload_n hx hb d_Y_read_266 rfl (hl.at 2 rfl) ?_
      obtain ⟨b40, hb41, h⟩ := h
      rw [hb41]
      obtain ⟨n43, t42, h⟩ := h
      obtain ⟨i44, h⟩ := h
      refine z_iald hx hb hK hM t42 0 rfl i44 d_Y_read_267 ?_
      exact b_268 M36 H locs ls a0 x1 x2 x3 x4 (some b40) x2 (zI M36 b40 x2.toNatClampNeg) (hl.sub [0, 1, 2, 3, 4] rfl) hM hS h
    · replace h := h.2 c39
      refine lv_iconst (v := (-1 : Int32)) hx hb d_Y_read_258 (by decide) ?_
      refine lv_goto (tgt := 268) hx hb d_Y_read_259 rfl ?_
      exact b_268 M36 H locs ls a0 x1 x2 x3 x4 (zR M36 a0 21) x2 (-1 : Int32) (hl.sub [0, 1, 2, 3, 4] rfl) hM hS h
  have b_213 : ∀ (M : zM) (H : Heap) (locs : List Loc) (ls : Array Slot) (a0 : Nat) (x1 : Int32) (x2 : Int32) (x3 : Int32) (x4 : Int32), zL ls 5 [(0, .ref a0), (1, .int x1), (2, .int x2), (3, .int x3), (4, .int x4)] → zW ca D zcl A M H → va_S A s.heap H locs → w_Y_read_213 post M a0 x1 x2 x3 x4 → W p l e rm_Y_read s m args below meth c H locs 0 0 Q (F0 m 213 ls []) := by
    intro M H locs ls a0 x1 x2 x3 x4 hl hM hS h
    unfold w_Y_read_213 at h
    refine lv_iload_n hx hb d_Y_read_213 rfl (hl.at 3 rfl) ?_
    refine lv_sipush (v := (412 : Int32)) hx hb d_Y_read_214 (by decide) ?_
    refine lv_icmp_ne (tgt := 230) hx hb d_Y_read_217 rfl (fun c28 => ?_) (fun c28 => ?_)
    · replace h := h.2 c28
      refine lv_aload_n hx hb d_Y_read_230 rfl (hl.at 0 rfl) ?_
      obtain ⟨t29, h⟩ := h
      refine z_getR hx hb hW in_9 hown hK hM t29 (by decide) rfl 9 (by decide) rfl (hW _ k_594) rfl d_Y_read_231 ?_
      refine lv_iload_n hx hb d_Y_read_234 rfl (hl.at 1 rfl) ?_
      refine lv_iload_n hx hb d_Y_read_235 rfl (hl.at 3 rfl) ?_
      refine lv_sipush (v := (404 : Int32)) hx hb d_Y_read_236 (by decide) ?_
      refine lv_icmp_ne (tgt := 246) hx hb d_Y_read_239 rfl (fun c30 => ?_) (fun c30 => ?_)
      · replace h := h.2 c30
        refine lv_iconst (v := (4 : Int32)) hx hb d_Y_read_246 (by decide) ?_
        exact b_247 M H locs ls a0 x1 x2 x3 x4 (zR M a0 9) x1 (4 : Int32) (hl.sub [0, 1, 2, 3, 4] rfl) hM hS h
      · replace h := h.1 c30
        refine lv_iconst (v := (3 : Int32)) hx hb d_Y_read_242 (by decide) ?_
        refine lv_goto (tgt := 247) hx hb d_Y_read_243 rfl ?_
        exact b_247 M H locs ls a0 x1 x2 x3 x4 (zR M a0 9) x1 (3 : Int32) (hl.sub [0, 1, 2, 3, 4] rfl) hM hS h
    · replace h := h.1 c28
      refine lv_aload_n hx hb d_Y_read_220 rfl (hl.at 0 rfl) ?_
      obtain ⟨t64, h⟩ := h
      refine z_getR hx hb hW in_9 hown hK hM t64 (by decide) rfl 9 (by decide) rfl (hW _ k_594) rfl d_Y_read_221 ?_
      refine lv_iload_n hx hb d_Y_read_224 rfl (hl.at 1 rfl) ?_
      refine lv_iconst (v := (5 : Int32)) hx hb d_Y_read_225 (by decide) ?_
      obtain ⟨b65, hb66, h⟩ := h
      rw [hb66]
      obtain ⟨n68, t67, h⟩ := h
      obtain ⟨i69, h⟩ := h
      refine z_iast hx hb hK hM hS t67 0 rfl i69 d_Y_read_226 (fun H locs hM hS => ?_)
      obtain ⟨M70, e71⟩ : ∃ z, z = zwI M b65 x1.toNatClampNeg (5 : Int32) := ⟨_, rfl⟩
      replace h := h M70 e71
      rw [← e71] at hM
      refine lv_goto (tgt := 269) hx hb d_Y_read_227 rfl ?_
      exact b_269 M70 H locs ls a0 x1 x2 x3 x4 (hl.sub [0, 1, 2, 3, 4] rfl) hM hS h
  have b_29 : ∀ (M : zM) (H : Heap) (locs : List Loc) (ls : Array Slot) (a0 : Nat) (x1 : Int32) (x2 : Int32) (x3 : Int32) (u0 : Int32), zL ls 5 [(0, .ref a0), (1, .int x1), (2, .int x2), (3, .int x3)] → zW ca D zcl A M H → va_S A s.heap H locs → w_Y_read_29 post M a0 x1 x2 x3 u0 → W p l e rm_Y_read s m args below meth c H locs 0 0 Q (F0 m 29 ls [.int u0]) := by
    intro M H locs ls a0 x1 x2 x3 u0 hl hM hS h
    unfold w_Y_read_29 at h
    refine z_istore hx hb d_Y_read_29 hl (by decide) rfl (fun ls hl => ?_)
    have hl : zL ls 5 [(4, .int u0), (0, .ref a0), (1, .int x1), (2, .int x2), (3, .int x3)] := hl
    refine lv_aload_n hx hb d_Y_read_31 rfl (hl.at 1 rfl) ?_
    obtain ⟨t18, h⟩ := h
    refine z_getR hx hb hW in_9 hown hK hM t18 (by decide) rfl 15 (by decide) rfl (hW _ k_600) rfl d_Y_read_32 ?_
    refine lv_iload_n hx hb d_Y_read_35 rfl (hl.at 2 rfl) ?_
    refine lv_iconst (v := (0 : Int32)) hx hb d_Y_read_36 (by decide) ?_
    obtain ⟨b19, hb20, h⟩ := h
    rw [hb20]
    obtain ⟨n22, t21, h⟩ := h
    obtain ⟨i23, h⟩ := h
    refine z_iast hx hb hK hM hS t21 0 rfl i23 d_Y_read_37 (fun H locs hM hS => ?_)
    obtain ⟨M24, e25⟩ : ∃ z, z = zwI M b19 x1.toNatClampNeg (0 : Int32) := ⟨_, rfl⟩
    replace h := h M24 e25
    rw [← e25] at hM
    refine lv_iload_n hx hb d_Y_read_38 rfl (hl.at 4 rfl) ?_
    refine lv_sipush (v := (304 : Int32)) hx hb d_Y_read_39 (by decide) ?_
    refine lv_icmp_ne (tgt := 115) hx hb d_Y_read_42 rfl (fun c26 => ?_) (fun c26 => ?_)
    · replace h := h.2 c26
      refine lv_iload_n hx hb d_Y_read_115 rfl (hl.at 4 rfl) ?_
      refine lv_sipush (v := (200 : Int32)) hx hb d_Y_read_116 (by decide) ?_
      refine lv_icmp_ne (tgt := 213) hx hb d_Y_read_119 rfl (fun c27 => ?_) (fun c27 => ?_)
      · replace h := h.2 c27
        exact b_213 M24 H locs ls a0 x1 x2 x3 u0 (hl.sub [1, 2, 3, 4, 0] rfl) hM hS h
      · replace h := h.1 c27
        refine lv_aload_n hx hb d_Y_read_122 rfl (hl.at 1 rfl) ?_
        have t72 : zT M24 a0 = some (9, 40) := by rw [e25]; exact t18
        refine z_getR hx hb hW in_9 hown hK hM t72 (by decide) rfl 7 (by decide) rfl (hW _ k_592) rfl d_Y_read_123 ?_
        refine lv_iload_n hx hb d_Y_read_126 rfl (hl.at 2 rfl) ?_
        obtain ⟨b73, hb74, h⟩ := h
        rw [hb74]
        obtain ⟨n76, t75, h⟩ := h
        obtain ⟨i77, h⟩ := h
        refine z_zald hx hb hK hM t75 1 rfl i77 d_Y_read_127 ?_
        refine lv_if_ne (tgt := 213) hx hb d_Y_read_128 rfl (fun c78 => ?_) (fun c78 => ?_)
        · replace h := h.2 c78
          exact b_213 M24 H locs ls a0 x1 x2 x3 u0 (hl.sub [1, 2, 3, 4, 0] rfl) hM hS h
        · replace h := h.1 c78
          refine lv_aload_n hx hb d_Y_read_131 rfl (hl.at 1 rfl) ?_
          refine z_getR hx hb hW in_9 hown hK hM t72 (by decide) rfl 9 (by decide) rfl (hW _ k_594) rfl d_Y_read_132 ?_
          refine lv_iload_n hx hb d_Y_read_135 rfl (hl.at 2 rfl) ?_
          refine lv_iconst (v := (1 : Int32)) hx hb d_Y_read_136 (by decide) ?_
          obtain ⟨b79, hb80, h⟩ := h
          rw [hb80]
          obtain ⟨n82, t81, h⟩ := h
          obtain ⟨i83, h⟩ := h
          refine z_iast hx hb hK hM hS t81 0 rfl i83 d_Y_read_137 (fun H locs hM hS => ?_)
          obtain ⟨M84, e85⟩ : ∃ z, z = zwI M24 b79 x1.toNatClampNeg (1 : Int32) := ⟨_, rfl⟩
          replace h := h M84 e85
          rw [← e85] at hM
          refine lv_aload_n hx hb d_Y_read_138 rfl (hl.at 1 rfl) ?_
          have t86 : zT M84 a0 = some (9, 40) := by rw [e85]; exact t72
          refine z_getR hx hb hW in_9 hown hK hM t86 (by decide) rfl 14 (by decide) rfl (hW _ k_599) rfl d_Y_read_139 ?_
          refine lv_iload_n hx hb d_Y_read_142 rfl (hl.at 2 rfl) ?_
          refine lv_aload_n hx hb d_Y_read_143 rfl (hl.at 1 rfl) ?_
          refine z_getR hx hb hW in_9 hown hK hM t86 (by decide) rfl 19 (by decide) rfl (hW _ k_604) rfl d_Y_read_144 ?_
          refine lv_iload_n hx hb d_Y_read_147 rfl (hl.at 2 rfl) ?_
          obtain ⟨b87, hb88, h⟩ := h
          rw [hb88]
          obtain ⟨n90, t89, h⟩ := h
          obtain ⟨i91, h⟩ := h
          refine z_iald hx hb hK hM t89 0 rfl i91 d_Y_read_148 ?_
          obtain ⟨b92, hb93, h⟩ := h
          rw [hb93]
          obtain ⟨n95, t94, h⟩ := h
          obtain ⟨i96, h⟩ := h
          refine z_iast hx hb hK hM hS t94 0 rfl i96 d_Y_read_149 (fun H locs hM hS => ?_)
          obtain ⟨M97, e98⟩ : ∃ z, z = zwI M84 b92 x1.toNatClampNeg (zI M84 b87 x1.toNatClampNeg) := ⟨_, rfl⟩
          replace h := h M97 e98
          rw [← e98] at hM
          refine lv_iload hx hb d_Y_read_150 (hl.at 0 rfl) ?_
          refine lv_if_eq (tgt := 269) hx hb d_Y_read_152 rfl (fun c99 => ?_) (fun c99 => ?_)
          · replace h := h.1 c99
            exact b_269 M97 H locs ls a0 x1 x2 x3 u0 (hl.sub [1, 2, 3, 4, 0] rfl) hM hS h
          · replace h := h.2 c99
            refine lv_aload_n hx hb d_Y_read_155 rfl (hl.at 1 rfl) ?_
            have t100 : zT M97 a0 = some (9, 40) := by rw [e98]; exact t86
            refine z_getR hx hb hW in_9 hown hK hM t100 (by decide) rfl 22 (by decide) rfl (hW _ k_607) rfl d_Y_read_156 ?_
            refine lv_iload_n hx hb d_Y_read_159 rfl (hl.at 3 rfl) ?_
            refine lv_aload_n hx hb d_Y_read_160 rfl (hl.at 1 rfl) ?_
            refine z_getR hx hb hW in_9 hown hK hM t100 (by decide) rfl 17 (by decide) rfl (hW _ k_602) rfl d_Y_read_161 ?_
            refine lv_iload_n hx hb d_Y_read_164 rfl (hl.at 2 rfl) ?_
            obtain ⟨b101, hb102, h⟩ := h
            rw [hb102]
            obtain ⟨n104, t103, h⟩ := h
            obtain ⟨i105, h⟩ := h
            refine z_iald hx hb hK hM t103 0 rfl i105 d_Y_read_165 ?_
            obtain ⟨b106, hb107, h⟩ := h
            rw [hb107]
            obtain ⟨n109, t108, h⟩ := h
            obtain ⟨i110, h⟩ := h
            refine z_iast hx hb hK hM hS t108 0 rfl i110 d_Y_read_166 (fun H locs hM hS => ?_)
            obtain ⟨M111, e112⟩ : ∃ z, z = zwI M97 b106 x2.toNatClampNeg (zI M97 b101 x1.toNatClampNeg) := ⟨_, rfl⟩
            replace h := h M111 e112
            rw [← e112] at hM
            refine lv_aload_n hx hb d_Y_read_167 rfl (hl.at 1 rfl) ?_
            have t113 : zT M111 a0 = some (9, 40) := by rw [e112]; exact t100
            refine z_getR hx hb hW in_9 hown hK hM t113 (by decide) rfl 23 (by decide) rfl (hW _ k_608) rfl d_Y_read_168 ?_
            refine lv_iload_n hx hb d_Y_read_171 rfl (hl.at 3 rfl) ?_
            refine lv_aload_n hx hb d_Y_read_172 rfl (hl.at 1 rfl) ?_
            refine z_getR hx hb hW in_9 hown hK hM t113 (by decide) rfl 19 (by decide) rfl (hW _ k_604) rfl d_Y_read_173 ?_
            refine lv_iload_n hx hb d_Y_read_176 rfl (hl.at 2 rfl) ?_
            obtain ⟨b114, hb115, h⟩ := h
            rw [hb115]
            obtain ⟨n117, t116, h⟩ := h
            obtain ⟨i118, h⟩ := h
            refine z_iald hx hb hK hM t116 0 rfl i118 d_Y_read_177 ?_
            obtain ⟨b119, hb120, h⟩ := h
            rw [hb120]
            obtain ⟨n122, t121, h⟩ := h
            obtain ⟨i123, h⟩ := h
            refine z_iast hx hb hK hM hS t121 0 rfl i123 d_Y_read_178 (fun H locs hM hS => ?_)
            obtain ⟨M124, e125⟩ : ∃ z, z = zwI M111 b119 x2.toNatClampNeg (zI M111 b114 x1.toNatClampNeg) := ⟨_, rfl⟩
            replace h := h M124 e125
            rw [← e125] at hM
            refine lv_aload_n hx hb d_Y_read_179 rfl (hl.at 1 rfl) ?_
            have t126 : zT M124 a0 = some (9, 40) := by rw [e125]; exact t113
            refine z_getR hx hb hW in_9 hown hK hM t126 (by decide) rfl 24 (by decide) rfl (hW _ k_609) rfl d_Y_read_180 ?_
            refine lv_iload_n hx hb d_Y_read_183 rfl (hl.at 3 rfl) ?_
            refine lv_aload_n hx hb d_Y_read_184 rfl (hl.at 1 rfl) ?_
            refine z_getR hx hb hW in_9 hown hK hM t126 (by decide) rfl 18 (by decide) rfl (hW _ k_603) rfl d_Y_read_185 ?_
            refine lv_iload_n hx hb d_Y_read_188 rfl (hl.at 2 rfl) ?_
            obtain ⟨b127, hb128, h⟩ := h
            rw [hb128]
            obtain ⟨n130, t129, h⟩ := h
            obtain ⟨i131, h⟩ := h
            refine z_iald hx hb hK hM t129 0 rfl i131 d_Y_read_189 ?_
            obtain ⟨b132, hb133, h⟩ := h
            rw [hb133]
            obtain ⟨n135, t134, h⟩ := h
            obtain ⟨i136, h⟩ := h
            refine z_iast hx hb hK hM hS t134 0 rfl i136 d_Y_read_190 (fun H locs hM hS => ?_)
            obtain ⟨M137, e138⟩ : ∃ z, z = zwI M124 b132 x2.toNatClampNeg (zI M124 b127 x1.toNatClampNeg) := ⟨_, rfl⟩
            replace h := h M137 e138
            rw [← e138] at hM
            refine lv_aload_n hx hb d_Y_read_191 rfl (hl.at 1 rfl) ?_
            have t139 : zT M137 a0 = some (9, 40) := by rw [e138]; exact t126
            refine z_getR hx hb hW in_9 hown hK hM t139 (by decide) rfl 25 (by decide) rfl (hW _ k_610) rfl d_Y_read_192 ?_
            refine lv_iload_n hx hb d_Y_read_195 rfl (hl.at 3 rfl) ?_
            refine lv_aload_n hx hb d_Y_read_196 rfl (hl.at 1 rfl) ?_
            refine z_getR hx hb hW in_9 hown hK hM t139 (by decide) rfl 13 (by decide) rfl (hW _ k_598) rfl d_Y_read_197 ?_
            refine lv_iload_n hx hb d_Y_read_200 rfl (hl.at 2 rfl) ?_
            obtain ⟨b140, hb141, h⟩ := h
            rw [hb141]
            obtain ⟨n143, t142, h⟩ := h
            obtain ⟨i144, h⟩ := h
            refine z_iald hx hb hK hM t142 0 rfl i144 d_Y_read_201 ?_
            obtain ⟨b145, hb146, h⟩ := h
            rw [hb146]
            obtain ⟨n148, t147, h⟩ := h
            obtain ⟨i149, h⟩ := h
            refine z_iast hx hb hK hM hS t147 0 rfl i149 d_Y_read_202 (fun H locs hM hS => ?_)
            obtain ⟨M150, e151⟩ : ∃ z, z = zwI M137 b145 x2.toNatClampNeg (zI M137 b140 x1.toNatClampNeg) := ⟨_, rfl⟩
            replace h := h M150 e151
            rw [← e151] at hM
            refine lv_aload_n hx hb d_Y_read_203 rfl (hl.at 1 rfl) ?_
            have t152 : zT M150 a0 = some (9, 40) := by rw [e151]; exact t139
            refine z_getR hx hb hW in_9 hown hK hM t152 (by decide) rfl 21 (by decide) rfl (hW _ k_606) rfl d_Y_read_204 ?_
            refine lv_iload_n hx hb d_Y_read_207 rfl (hl.at 3 rfl) ?_
            refine lv_iload_n hx hb d_Y_read_208 rfl (hl.at 2 rfl) ?_
            obtain ⟨b153, hb154, h⟩ := h
            rw [hb154]
            obtain ⟨n156, t155, h⟩ := h
            obtain ⟨i157, h⟩ := h
            refine z_iast hx hb hK hM hS t155 0 rfl i157 d_Y_read_209 (fun H locs hM hS => ?_)
            obtain ⟨M158, e159⟩ : ∃ z, z = zwI M150 b153 x2.toNatClampNeg x1 := ⟨_, rfl⟩
            replace h := h M158 e159
            rw [← e159] at hM
            refine lv_goto (tgt := 269) hx hb d_Y_read_210 rfl ?_
            exact b_269 M158 H locs ls a0 x1 x2 x3 u0 (hl.sub [1, 2, 3, 4, 0] rfl) hM hS h
    · replace h := h.1 c26
      refine lv_aload_n hx hb d_Y_read_45 rfl (hl.at 1 rfl) ?_
      have t160 : zT M24 a0 = some (9, 40) := by rw [e25]; exact t18
      refine z_getR hx hb hW in_9 hown hK hM t160 (by decide) rfl 9 (by decide) rfl (hW _ k_594) rfl d_Y_read_46 ?_
      refine lv_iload_n hx hb d_Y_read_49 rfl (hl.at 2 rfl) ?_
      refine lv_iconst (v := (2 : Int32)) hx hb d_Y_read_50 (by decide) ?_
      obtain ⟨b161, hb162, h⟩ := h
      rw [hb162]
      obtain ⟨n164, t163, h⟩ := h
      obtain ⟨i165, h⟩ := h
      refine z_iast hx hb hK hM hS t163 0 rfl i165 d_Y_read_51 (fun H locs hM hS => ?_)
      obtain ⟨M166, e167⟩ : ∃ z, z = zwI M24 b161 x1.toNatClampNeg (2 : Int32) := ⟨_, rfl⟩
      replace h := h M166 e167
      rw [← e167] at hM
      refine lv_aload_n hx hb d_Y_read_52 rfl (hl.at 1 rfl) ?_
      have t168 : zT M166 a0 = some (9, 40) := by rw [e167]; exact t160
      refine z_getR hx hb hW in_9 hown hK hM t168 (by decide) rfl 21 (by decide) rfl (hW _ k_606) rfl d_Y_read_53 ?_
      refine lv_iload_n hx hb d_Y_read_56 rfl (hl.at 3 rfl) ?_
      obtain ⟨b169, hb170, h⟩ := h
      rw [hb170]
      obtain ⟨n172, t171, h⟩ := h
      obtain ⟨i173, h⟩ := h
      refine z_iald hx hb hK hM t171 0 rfl i173 d_Y_read_57 ?_
      refine lv_if_lt (tgt := 269) hx hb d_Y_read_58 rfl (fun c174 => ?_) (fun c174 => ?_)
      · replace h := h.1 c174
        exact b_269 M166 H locs ls a0 x1 x2 x3 u0 (hl.sub [1, 2, 3, 4, 0] rfl) hM hS h
      · replace h := h.2 c174
        refine lv_aload_n hx hb d_Y_read_61 rfl (hl.at 1 rfl) ?_
        refine z_getR hx hb hW in_9 hown hK hM t168 (by decide) rfl 22 (by decide) rfl (hW _ k_607) rfl d_Y_read_62 ?_
        refine lv_iload_n hx hb d_Y_read_65 rfl (hl.at 3 rfl) ?_
        obtain ⟨b175, hb176, h⟩ := h
        rw [hb176]
        obtain ⟨n178, t177, h⟩ := h
        obtain ⟨i179, h⟩ := h
        refine z_iald hx hb hK hM t177 0 rfl i179 d_Y_read_66 ?_
        refine lv_aload_n hx hb d_Y_read_67 rfl (hl.at 1 rfl) ?_
        refine z_getR hx hb hW in_9 hown hK hM t168 (by decide) rfl 17 (by decide) rfl (hW _ k_602) rfl d_Y_read_68 ?_
        refine lv_iload_n hx hb d_Y_read_71 rfl (hl.at 2 rfl) ?_
        obtain ⟨b180, hb181, h⟩ := h
        rw [hb181]
        obtain ⟨n183, t182, h⟩ := h
        obtain ⟨i184, h⟩ := h
        refine z_iald hx hb hK hM t182 0 rfl i184 d_Y_read_72 ?_
        refine lv_icmp_ne (tgt := 269) hx hb d_Y_read_73 rfl (fun c185 => ?_) (fun c185 => ?_)
        · replace h := h.2 c185
          exact b_269 M166 H locs ls a0 x1 x2 x3 u0 (hl.sub [1, 2, 3, 4, 0] rfl) hM hS h
        · replace h := h.1 c185
          refine lv_iload hx hb d_Y_read_76 (hl.at 0 rfl) ?_
          refine lv_if_eq (tgt := 269) hx hb d_Y_read_78 rfl (fun c186 => ?_) (fun c186 => ?_)
          · replace h := h.1 c186
            exact b_269 M166 H locs ls a0 x1 x2 x3 u0 (hl.sub [1, 2, 3, 4, 0] rfl) hM hS h
          · replace h := h.2 c186
            refine lv_aload_n hx hb d_Y_read_81 rfl (hl.at 1 rfl) ?_
            refine z_getR hx hb hW in_9 hown hK hM t168 (by decide) rfl 24 (by decide) rfl (hW _ k_609) rfl d_Y_read_82 ?_
            refine lv_iload_n hx hb d_Y_read_85 rfl (hl.at 3 rfl) ?_
            refine lv_aload_n hx hb d_Y_read_86 rfl (hl.at 1 rfl) ?_
            refine z_getR hx hb hW in_9 hown hK hM t168 (by decide) rfl 18 (by decide) rfl (hW _ k_603) rfl d_Y_read_87 ?_
            refine lv_iload_n hx hb d_Y_read_90 rfl (hl.at 2 rfl) ?_
            obtain ⟨b187, hb188, h⟩ := h
            rw [hb188]
            obtain ⟨n190, t189, h⟩ := h
            obtain ⟨i191, h⟩ := h
            refine z_iald hx hb hK hM t189 0 rfl i191 d_Y_read_91 ?_
            obtain ⟨b192, hb193, h⟩ := h
            rw [hb193]
            obtain ⟨n195, t194, h⟩ := h
            obtain ⟨i196, h⟩ := h
            refine z_iast hx hb hK hM hS t194 0 rfl i196 d_Y_read_92 (fun H locs hM hS => ?_)
            obtain ⟨M197, e198⟩ : ∃ z, z = zwI M166 b192 x2.toNatClampNeg (zI M166 b187 x1.toNatClampNeg) := ⟨_, rfl⟩
            replace h := h M197 e198
            rw [← e198] at hM
            refine lv_aload_n hx hb d_Y_read_93 rfl (hl.at 1 rfl) ?_
            have t199 : zT M197 a0 = some (9, 40) := by rw [e198]; exact t168
            refine z_getR hx hb hW in_9 hown hK hM t199 (by decide) rfl 25 (by decide) rfl (hW _ k_610) rfl d_Y_read_94 ?_
            refine lv_iload_n hx hb d_Y_read_97 rfl (hl.at 3 rfl) ?_
            refine lv_aload_n hx hb d_Y_read_98 rfl (hl.at 1 rfl) ?_
            refine z_getR hx hb hW in_9 hown hK hM t199 (by decide) rfl 13 (by decide) rfl (hW _ k_598) rfl d_Y_read_99 ?_
            refine lv_iload_n hx hb d_Y_read_102 rfl (hl.at 2 rfl) ?_
            obtain ⟨b200, hb201, h⟩ := h
            rw [hb201]
            obtain ⟨n203, t202, h⟩ := h
            obtain ⟨i204, h⟩ := h
            refine z_iald hx hb hK hM t202 0 rfl i204 d_Y_read_103 ?_
            obtain ⟨b205, hb206, h⟩ := h
            rw [hb206]
            obtain ⟨n208, t207, h⟩ := h
            obtain ⟨i209, h⟩ := h
            refine z_iast hx hb hK hM hS t207 0 rfl i209 d_Y_read_104 (fun H locs hM hS => ?_)
            obtain ⟨M210, e211⟩ : ∃ z, z = zwI M197 b205 x2.toNatClampNeg (zI M197 b200 x1.toNatClampNeg) := ⟨_, rfl⟩
            replace h := h M210 e211
            rw [← e211] at hM
            refine lv_aload_n hx hb d_Y_read_105 rfl (hl.at 1 rfl) ?_
            have t212 : zT M210 a0 = some (9, 40) := by rw [e211]; exact t199
            refine z_getR hx hb hW in_9 hown hK hM t212 (by decide) rfl 21 (by decide) rfl (hW _ k_606) rfl d_Y_read_106 ?_
            refine lv_iload_n hx hb d_Y_read_109 rfl (hl.at 3 rfl) ?_
            refine lv_iload_n hx hb d_Y_read_110 rfl (hl.at 2 rfl) ?_
            obtain ⟨b213, hb214, h⟩ := h
            rw [hb214]
            obtain ⟨n216, t215, h⟩ := h
            obtain ⟨i217, h⟩ := h
            refine z_iast hx hb hK hM hS t215 0 rfl i217 d_Y_read_111 (fun H locs hM hS => ?_)
            obtain ⟨M218, e219⟩ : ∃ z, z = zwI M210 b213 x2.toNatClampNeg x1 := ⟨_, rfl⟩
            replace h := h M218 e219
            rw [← e219] at hM
            refine lv_goto (tgt := 269) hx hb d_Y_read_112 rfl ?_
            exact b_269 M218 H locs ls a0 x1 x2 x3 u0 (hl.sub [1, 2, 3, 4, 0] rfl) hM hS h
  have b_start : ∀ (M : zM) (H : Heap) (locs : List Loc) (ls : Array Slot) (a0 : Nat) (x1 : Int32), zL ls 5 [(0, .ref a0), (1, .int x1)] → zW ca D zcl A M H → va_S A s.heap H locs → w_Y_read M a0 x1 post → W p l e rm_Y_read s m args below meth c H locs 0 0 Q (F0 m 0 ls []) := by
    intro M H locs ls a0 x1 hl hM hS h
    unfold w_Y_read at h
    refine lv_aload_n hx hb d_Y_read_0 rfl (hl.at 0 rfl) ?_
    obtain ⟨t1, h⟩ := h
    refine z_getR hx hb hW in_9 hown hK hM t1 (by decide) rfl 8 (by decide) rfl (hW _ k_593) rfl d_Y_read_1 ?_
    refine lv_iload_n hx hb d_Y_read_4 rfl (hl.at 1 rfl) ?_
    obtain ⟨b2, hb3, h⟩ := h
    rw [hb3]
    obtain ⟨n5, t4, h⟩ := h
    obtain ⟨i6, h⟩ := h
    refine z_iald hx hb hK hM t4 0 rfl i6 d_Y_read_5 ?_
    refine z_istore_n hx hb d_Y_read_6 rfl hl (by decide) rfl (fun ls hl => ?_)
    have hl : zL ls 5 [(2, .int (zI M b2 x1.toNatClampNeg)), (0, .ref a0), (1, .int x1)] := hl
    refine lv_aload_n hx hb d_Y_read_7 rfl (hl.at 1 rfl) ?_
    refine z_getR hx hb hW in_9 hown hK hM t1 (by decide) rfl 16 (by decide) rfl (hW _ k_601) rfl d_Y_read_8 ?_
    refine lv_iload_n hx hb d_Y_read_11 rfl (hl.at 2 rfl) ?_
    obtain ⟨b7, hb8, h⟩ := h
    rw [hb8]
    obtain ⟨n10, t9, h⟩ := h
    obtain ⟨i11, h⟩ := h
    refine z_iald hx hb hK hM t9 0 rfl i11 d_Y_read_12 ?_
    refine z_istore_n hx hb d_Y_read_13 rfl hl (by decide) rfl (fun ls hl => ?_)
    have hl : zL ls 5 [(3, .int (zI M b7 x1.toNatClampNeg)), (2, .int (zI M b2 x1.toNatClampNeg)), (0, .ref a0), (1, .int x1)] := hl
    refine lv_aload_n hx hb d_Y_read_14 rfl (hl.at 2 rfl) ?_
    refine z_getR hx hb hW in_9 hown hK hM t1 (by decide) rfl 21 (by decide) rfl (hW _ k_606) rfl d_Y_read_15 ?_
    refine lv_iload_n hx hb d_Y_read_18 rfl (hl.at 1 rfl) ?_
    obtain ⟨b12, hb13, h⟩ := h
    rw [hb13]
    obtain ⟨n15, t14, h⟩ := h
    obtain ⟨i16, h⟩ := h
    refine z_iald hx hb hK hM t14 0 rfl i16 d_Y_read_19 ?_
    refine lv_iload_n hx hb d_Y_read_20 rfl (hl.at 3 rfl) ?_
    refine lv_icmp_ge (tgt := 28) hx hb d_Y_read_21 rfl (fun c17 => ?_) (fun c17 => ?_)
    · replace h := h.1 c17
      refine lv_iconst (v := (0 : Int32)) hx hb d_Y_read_28 (by decide) ?_
      exact b_29 M H locs ls a0 x1 (zI M b2 x1.toNatClampNeg) (zI M b7 x1.toNatClampNeg) (0 : Int32) (hl.sub [2, 3, 1, 0] rfl) hM hS h
    · replace h := h.2 c17
      refine lv_iconst (v := (1 : Int32)) hx hb d_Y_read_24 (by decide) ?_
      refine lv_goto (tgt := 29) hx hb d_Y_read_25 rfl ?_
      exact b_29 M H locs ls a0 x1 (zI M b2 x1.toNatClampNeg) (zI M b7 x1.toNatClampNeg) (1 : Int32) (hl.sub [2, 3, 1, 0] rfl) hM hS h
  exact b_start M s.heap [] ls a0 x1 hl hM hS h
