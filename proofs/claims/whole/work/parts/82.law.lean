set_option maxHeartbeats 8000000 in
set_option maxRecDepth 100000 in
theorem law_loop {p : Program} {e : Env} {s : State} {m : MethodId} {below : List Frame} {meth : Method} {c : Code} (l : Launch) (ca : Nat → ClassId) (D : va_G) {b L : Nat} {xs : Nat → Int32} (hL : L ≤ 2048) {A : Nat → Prop} {ax am : Nat} {Q : State → Prop}
    (hx : p.tables.exec = Jvm.exec) (hb : c.code = code) (hml : c.maxLocals = 4) (hown : s.vm.findClass "TabledOriginLaw" = some m.cls) (hW : ∀ w ∈ zws, w.before #[Value.ref b] s = true) (hX : va_X b L xs s s.heap) (hbl : b < s.heap.size) (hbA : ¬ A b) (hA : ∀ q, s.heap.size ≤ q → A q) (hK : va_K D zcl (ztys ca) s) (hN : zN s)
    (out : ∀ (H : Heap) (locs : List Loc) (ls : Array Slot) (n k : Nat), n ≤ 600000 → k ≤ 7302250 → zL ls 4 [(0, .ref b), (1, .ref ax), (2, .ref am)] → va_S A s.heap H locs → W p l e room_1 s m #[Value.ref b] below meth c H locs n k Q (F0 m 550 ls [])) :
    ∀ (d k : Nat) (M1 M2 : zM) (H : Heap) (locs : List Loc) (ls : Array Slot), L ≤ 4 * k + 4 * d → 4 * k ≤ 2048 → zL ls 4 [(0, .ref b), (1, .ref ax), (2, .ref am), (3, .int (nI (4 * k)))] → zJ k ax am M1 M2 → zW ca D zcl A M1 H → zW ca D zcl A M2 H → zDis M1 M2 → va_S A s.heap H locs →
      W p l e room_1 s m #[Value.ref b] below meth c H locs (55 + 2 * k) (3278 + 13 * k) Q (F0 m 18 ls []) := by
  intro d
  induction d with
  | zero =>
    intro k M1 M2 H locs ls hd0 hk4 hl hJ hM1 hM2 hd hS
    refine lv_iload_n hx hb d_L_18 rfl (hl.at 3 rfl) ?_
    refine lv_aload_n hx hb d_L_19 rfl (hl.at 0 rfl) ?_
    refine va_slen hx hb hX hbl hbA hS d_L_20 ?_
    refine lv_iconst (v := (4 : Int32)) hx hb d_L_21 (by decide) ?_
    refine lv_isub hx hb d_L_22 ?_
    refine lv_icmp_gt (tgt := 550) hx hb d_L_23 rfl (fun _ => ?_) (fun c9 => absurd (z_lt4 (by omega) (by omega) (by omega)) c9)
    exact out H locs ls _ _ (by omega) (by omega) (hl.sub [0, 1, 2] rfl) hS
  | succ d ih =>
    intro k M1 M2 H locs ls hd0 hk4 hl hJ hM1 hM2 hd hS
    refine lv_iload_n hx hb d_L_18 rfl (hl.at 3 rfl) ?_
    refine lv_aload_n hx hb d_L_19 rfl (hl.at 0 rfl) ?_
    refine va_slen hx hb hX hbl hbA hS d_L_20 ?_
    refine lv_iconst (v := (4 : Int32)) hx hb d_L_21 (by decide) ?_
    refine lv_isub hx hb d_L_22 ?_
    by_cases hk5 : L < 4 * k + 4
    · refine lv_icmp_gt (tgt := 550) hx hb d_L_23 rfl (fun _ => ?_) (fun c9 => absurd (z_lt4 (by omega) (by omega) hk5) c9)
      exact out H locs ls _ _ (by omega) (by omega) (hl.sub [0, 1, 2] rfl) hS
    refine lv_icmp_gt (tgt := 550) hx hb d_L_23 rfl (fun c9 => absurd c9 (z_nlt4 (by omega) (by omega) hk5)) (fun _ => ?_)
    have hk : k < 512 := by omega
    have hin0 : vp_in (nI (4 * k)) L := vp_in_nI (by omega) (by omega)
    have hin1 : vp_in (nI (4 * k) + (1 : Int32)) L := z_in4 1 (by omega) (by omega)
    have hin2 : vp_in (nI (4 * k) + (2 : Int32)) L := z_in4 2 (by omega) (by omega)
    have hin3 : vp_in (nI (4 * k) + (3 : Int32)) L := z_in4 3 (by omega) (by omega)
    have next : ∀ (M1 M2 : zM) (H : Heap) (locs : List Loc), zW ca D zcl A M1 H → zW ca D zcl A M2 H → zDis M1 M2 → va_S A s.heap H locs → zJ (k + 1) ax am M1 M2 → W p l e room_1 s m #[Value.ref b] below meth c H locs (55 + 2 * (k + 1)) (3278 + 13 * (k + 1)) Q (F0 m 544 ls []) := by
      intro M1 M2 H locs hM1 hM2 hd hS hJ
      refine z_iinc (k := 3) (v := nI (4 * (k + 1))) hx hb d_L_544 hl rfl (z_i4 k) (by decide) rfl (fun ls hl => ?_)
      refine lv_goto (tgt := 18) hx hb d_L_547 rfl ?_
      exact ih (k + 1) M1 M2 H locs ls (by omega) (by omega) (hl.sub [1, 2, 3, 0] rfl) hJ hM1 hM2 hd hS
    refine lv_aload_n hx hb d_L_26 rfl (hl.at 0 rfl) ?_
    refine lv_iload_n hx hb d_L_27 rfl (hl.at 3 rfl) ?_
    refine va_sld hx hb hX hbl hbA hS hin0 d_L_28 ?_
    refine lv_bipush (v := (31 : Int32)) hx hb d_L_29 (by decide) ?_
    refine lv_iand hx hb d_L_31 ?_
    refine lv_topi (fun y ey => ?_)
    by_cases c0 : y = (0 : Int32)
    · refine z_tsIn (tgt := 120) (0 : Int32) c0 hx hb d_L_32 (by decide) (by decide) rfl rfl ?_
      have h := op_put k ax am M1 M2 hJ (xs (nI (4 * k) + (1 : Int32)).toNatClampNeg) (xs (nI (4 * k) + (2 : Int32)).toNatClampNeg) (xs (nI (4 * k) + (3 : Int32)).toNatClampNeg) hk
      refine lv_aload_n hx hb d_L_120 rfl (hl.at 1 rfl) ?_
      refine lv_aload_n hx hb d_L_121 rfl (hl.at 0 rfl) ?_
      refine lv_iload_n hx hb d_L_122 rfl (hl.at 3 rfl) ?_
      refine lv_iconst (v := (1 : Int32)) hx hb d_L_123 (by decide) ?_
      refine lv_iadd hx hb d_L_124 ?_
      refine va_sld hx hb hX hbl hbA hS hin1 d_L_125 ?_
      refine lv_aload_n hx hb d_L_126 rfl (hl.at 0 rfl) ?_
      refine lv_iload_n hx hb d_L_127 rfl (hl.at 3 rfl) ?_
      refine lv_iconst (v := (2 : Int32)) hx hb d_L_128 (by decide) ?_
      refine lv_iadd hx hb d_L_129 ?_
      refine va_sld hx hb hX hbl hbA hS hin2 d_L_130 ?_
      refine lv_aload_n hx hb d_L_131 rfl (hl.at 0 rfl) ?_
      refine lv_iload_n hx hb d_L_132 rfl (hl.at 3 rfl) ?_
      refine lv_iconst (v := (3 : Int32)) hx hb d_L_133 (by decide) ?_
      refine lv_iadd hx hb d_L_134 ?_
      refine va_sld hx hb hX hbl hbA hS hin3 d_L_135 ?_
      refine z_ct2i (mc := 0) (ms := 0) (va_runV (As := [.int (xs (nI (4 * k) + (1 : Int32)).toNatClampNeg), .int (xs (nI (4 * k) + (2 : Int32)).toNatClampNeg), .int (xs (nI (4 * k) + (3 : Int32)).toNatClampNeg)]) (rest := []) ⟨hx, hb, hml, hown, hW⟩ (c_X_put l ca D M1 H.size ax (xs (nI (4 * k) + (1 : Int32)).toNatClampNeg) (xs (nI (4 * k) + (2 : Int32)).toNatClampNeg) (xs (nI (4 * k) + (3 : Int32)).toNatClampNeg) _) (cw_X_put hW k_204 ⟨by decide, by decide⟩) (zPre_V hK hN hM1 h (zJ_x hJ) (by decide) rfl) rfl rfl hl.1.1 rfl (lv_room (Nat.le_of_ble_eq_true rfl)) d_L_136 ⟨Nat.le_trans (m := 600000) (by omega) (by decide), Nat.le_trans (m := 7302250) (by omega) (by decide)⟩) hM1 hM2 hd hS hA (fun r1 M1 H locs h hM1 hM2 hd hS => ?_)
      refine lv_aload_n hx hb d_L_139 rfl (hl.at 2 rfl) ?_
      refine lv_aload_n hx hb d_L_140 rfl (hl.at 0 rfl) ?_
      refine lv_iload_n hx hb d_L_141 rfl (hl.at 3 rfl) ?_
      refine lv_iconst (v := (1 : Int32)) hx hb d_L_142 (by decide) ?_
      refine lv_iadd hx hb d_L_143 ?_
      refine va_sld hx hb hX hbl hbA hS hin1 d_L_144 ?_
      refine lv_aload_n hx hb d_L_145 rfl (hl.at 0 rfl) ?_
      refine lv_iload_n hx hb d_L_146 rfl (hl.at 3 rfl) ?_
      refine lv_iconst (v := (2 : Int32)) hx hb d_L_147 (by decide) ?_
      refine lv_iadd hx hb d_L_148 ?_
      refine va_sld hx hb hX hbl hbA hS hin2 d_L_149 ?_
      refine lv_aload_n hx hb d_L_150 rfl (hl.at 0 rfl) ?_
      refine lv_iload_n hx hb d_L_151 rfl (hl.at 3 rfl) ?_
      refine lv_iconst (v := (3 : Int32)) hx hb d_L_152 (by decide) ?_
      refine lv_iadd hx hb d_L_153 ?_
      refine va_sld hx hb hX hbl hbA hS hin3 d_L_154 ?_
      refine z_ct2i (mc := 0) (ms := 0) (va_runV (As := [.int (xs (nI (4 * k) + (1 : Int32)).toNatClampNeg), .int (xs (nI (4 * k) + (2 : Int32)).toNatClampNeg), .int (xs (nI (4 * k) + (3 : Int32)).toNatClampNeg)]) (rest := [.int r1]) ⟨hx, hb, hml, hown, hW⟩ (c_Y_put l ca D M2 H.size am (xs (nI (4 * k) + (1 : Int32)).toNatClampNeg) (xs (nI (4 * k) + (2 : Int32)).toNatClampNeg) (xs (nI (4 * k) + (3 : Int32)).toNatClampNeg) _) (cw_Y_put hW k_707 ⟨by decide, by decide⟩) (zPre_V hK hN hM2 h (zJ_m hJ) (by decide) rfl) rfl rfl hl.1.1 rfl (lv_room (Nat.le_of_ble_eq_true rfl)) d_L_155 ⟨Nat.le_trans (m := 600000) (by omega) (by decide), Nat.le_trans (m := 7302250) (by omega) (by decide)⟩) hM2 hM1 hd.symm hS hA (fun r2 M2 H locs h hM2 hM1 hd hS => ?_)
      refine lv_icmp_eq (tgt := 544) hx hb d_L_158 rfl (fun _ => ?_) (fun c9 => absurd h.1 c9)
      refine W.widen (k := 55 + 2 * (k + 1)) (n := 3278 + 13 * (k + 1)) (by omega) (by omega) ?_
      exact next M1 M2 H locs hM1 hM2 hd.symm hS h.2
    by_cases c1 : y = (1 : Int32)
    · refine z_tsIn (tgt := 163) (1 : Int32) c1 hx hb d_L_32 (by decide) (by decide) rfl rfl ?_
      have h := op_drop k ax am M1 M2 hJ (xs (nI (4 * k) + (1 : Int32)).toNatClampNeg) hk
      refine lv_aload_n hx hb d_L_163 rfl (hl.at 1 rfl) ?_
      refine lv_aload_n hx hb d_L_164 rfl (hl.at 0 rfl) ?_
      refine lv_iload_n hx hb d_L_165 rfl (hl.at 3 rfl) ?_
      refine lv_iconst (v := (1 : Int32)) hx hb d_L_166 (by decide) ?_
      refine lv_iadd hx hb d_L_167 ?_
      refine va_sld hx hb hX hbl hbA hS hin1 d_L_168 ?_
      refine z_ct2i (mc := 0) (ms := 0) (va_runV (As := [.int (xs (nI (4 * k) + (1 : Int32)).toNatClampNeg)]) (rest := []) ⟨hx, hb, hml, hown, hW⟩ (c_X_drop l ca D M1 H.size ax (xs (nI (4 * k) + (1 : Int32)).toNatClampNeg) _) (cw_X_drop hW k_219 ⟨by decide, by decide⟩) (zPre_V hK hN hM1 h (zJ_x hJ) (by decide) rfl) rfl rfl hl.1.1 rfl (lv_room (Nat.le_of_ble_eq_true rfl)) d_L_169 ⟨Nat.le_trans (m := 600000) (by omega) (by decide), Nat.le_trans (m := 7302250) (by omega) (by decide)⟩) hM1 hM2 hd hS hA (fun r1 M1 H locs h hM1 hM2 hd hS => ?_)
      refine lv_aload_n hx hb d_L_172 rfl (hl.at 2 rfl) ?_
      refine lv_aload_n hx hb d_L_173 rfl (hl.at 0 rfl) ?_
      refine lv_iload_n hx hb d_L_174 rfl (hl.at 3 rfl) ?_
      refine lv_iconst (v := (1 : Int32)) hx hb d_L_175 (by decide) ?_
      refine lv_iadd hx hb d_L_176 ?_
      refine va_sld hx hb hX hbl hbA hS hin1 d_L_177 ?_
      refine z_ct2i (mc := 0) (ms := 0) (va_runV (As := [.int (xs (nI (4 * k) + (1 : Int32)).toNatClampNeg)]) (rest := [.int r1]) ⟨hx, hb, hml, hown, hW⟩ (c_Y_drop l ca D M2 H.size am (xs (nI (4 * k) + (1 : Int32)).toNatClampNeg) _) (cw_Y_drop hW k_718 ⟨by decide, by decide⟩) (zPre_V hK hN hM2 h (zJ_m hJ) (by decide) rfl) rfl rfl hl.1.1 rfl (lv_room (Nat.le_of_ble_eq_true rfl)) d_L_178 ⟨Nat.le_trans (m := 600000) (by omega) (by decide), Nat.le_trans (m := 7302250) (by omega) (by decide)⟩) hM2 hM1 hd.symm hS hA (fun r2 M2 H locs h hM2 hM1 hd hS => ?_)
      refine lv_icmp_eq (tgt := 544) hx hb d_L_181 rfl (fun _ => ?_) (fun c9 => absurd h.1 c9)
      refine W.widen (k := 55 + 2 * (k + 1)) (n := 3278 + 13 * (k + 1)) (by omega) (by omega) ?_
      exact next M1 M2 H locs hM1 hM2 hd.symm hS h.2
    by_cases c2 : y = (2 : Int32)
    · refine z_tsIn (tgt := 186) (2 : Int32) c2 hx hb d_L_32 (by decide) (by decide) rfl rfl ?_
      have h := op_get k ax am M1 M2 hJ (xs (nI (4 * k) + (1 : Int32)).toNatClampNeg) hk
      refine lv_aload_n hx hb d_L_186 rfl (hl.at 1 rfl) ?_
      refine lv_aload_n hx hb d_L_187 rfl (hl.at 0 rfl) ?_
      refine lv_iload_n hx hb d_L_188 rfl (hl.at 3 rfl) ?_
      refine lv_iconst (v := (1 : Int32)) hx hb d_L_189 (by decide) ?_
      refine lv_iadd hx hb d_L_190 ?_
      refine va_sld hx hb hX hbl hbA hS hin1 d_L_191 ?_
      refine z_ct2i (mc := 1) (ms := 12) (va_runV (As := [.int (xs (nI (4 * k) + (1 : Int32)).toNatClampNeg)]) (rest := []) ⟨hx, hb, hml, hown, hW⟩ (c_X_get l ca D M1 H.size ax (xs (nI (4 * k) + (1 : Int32)).toNatClampNeg) _) (cw_X_get hW k_223 ⟨by decide, by decide⟩) (zPre_V hK hN hM1 h (zJ_x hJ) (by decide) rfl) rfl rfl hl.1.1 rfl (lv_room (Nat.le_of_ble_eq_true rfl)) d_L_192 ⟨Nat.le_trans (m := 600000) (by omega) (by decide), Nat.le_trans (m := 7302250) (by omega) (by decide)⟩) hM1 hM2 hd hS hA (fun r1 M1 H locs h hM1 hM2 hd hS => ?_)
      refine lv_aload_n hx hb d_L_195 rfl (hl.at 2 rfl) ?_
      refine lv_aload_n hx hb d_L_196 rfl (hl.at 0 rfl) ?_
      refine lv_iload_n hx hb d_L_197 rfl (hl.at 3 rfl) ?_
      refine lv_iconst (v := (1 : Int32)) hx hb d_L_198 (by decide) ?_
      refine lv_iadd hx hb d_L_199 ?_
      refine va_sld hx hb hX hbl hbA hS hin1 d_L_200 ?_
      refine z_ct2i (mc := 0) (ms := 0) (va_runV (As := [.int (xs (nI (4 * k) + (1 : Int32)).toNatClampNeg)]) (rest := [.int r1]) ⟨hx, hb, hml, hown, hW⟩ (c_Y_get l ca D M2 H.size am (xs (nI (4 * k) + (1 : Int32)).toNatClampNeg) _) (cw_Y_get hW k_766 ⟨by decide, by decide⟩) (zPre_V hK hN hM2 h (zJ_m hJ) (by decide) rfl) rfl rfl hl.1.1 rfl (lv_room (Nat.le_of_ble_eq_true rfl)) d_L_201 ⟨Nat.le_trans (m := 600000) (by omega) (by decide), Nat.le_trans (m := 7302250) (by omega) (by decide)⟩) hM2 hM1 hd.symm hS hA (fun r2 M2 H locs h hM2 hM1 hd hS => ?_)
      refine lv_icmp_eq (tgt := 544) hx hb d_L_204 rfl (fun _ => ?_) (fun c9 => absurd h.1 c9)
      refine W.widen (k := 55 + 2 * (k + 1)) (n := 3278 + 13 * (k + 1)) (by omega) (by omega) ?_
      exact next M1 M2 H locs hM1 hM2 hd.symm hS h.2
    by_cases c3 : y = (3 : Int32)
    · refine z_tsIn (tgt := 209) (3 : Int32) c3 hx hb d_L_32 (by decide) (by decide) rfl rfl ?_
      have h := op_replace k ax am M1 M2 hJ (xs (nI (4 * k) + (1 : Int32)).toNatClampNeg) (xs (nI (4 * k) + (2 : Int32)).toNatClampNeg) (xs (nI (4 * k) + (3 : Int32)).toNatClampNeg) hk
      refine lv_aload_n hx hb d_L_209 rfl (hl.at 1 rfl) ?_
      refine lv_aload_n hx hb d_L_210 rfl (hl.at 0 rfl) ?_
      refine lv_iload_n hx hb d_L_211 rfl (hl.at 3 rfl) ?_
      refine lv_iconst (v := (1 : Int32)) hx hb d_L_212 (by decide) ?_
      refine lv_iadd hx hb d_L_213 ?_
      refine va_sld hx hb hX hbl hbA hS hin1 d_L_214 ?_
      refine lv_aload_n hx hb d_L_215 rfl (hl.at 0 rfl) ?_
      refine lv_iload_n hx hb d_L_216 rfl (hl.at 3 rfl) ?_
      refine lv_iconst (v := (2 : Int32)) hx hb d_L_217 (by decide) ?_
      refine lv_iadd hx hb d_L_218 ?_
      refine va_sld hx hb hX hbl hbA hS hin2 d_L_219 ?_
      refine lv_aload_n hx hb d_L_220 rfl (hl.at 0 rfl) ?_
      refine lv_iload_n hx hb d_L_221 rfl (hl.at 3 rfl) ?_
      refine lv_iconst (v := (3 : Int32)) hx hb d_L_222 (by decide) ?_
      refine lv_iadd hx hb d_L_223 ?_
      refine va_sld hx hb hX hbl hbA hS hin3 d_L_224 ?_
      refine z_ct2i (mc := 1) (ms := 12) (va_runV (As := [.int (xs (nI (4 * k) + (1 : Int32)).toNatClampNeg), .int (xs (nI (4 * k) + (2 : Int32)).toNatClampNeg), .int (xs (nI (4 * k) + (3 : Int32)).toNatClampNeg)]) (rest := []) ⟨hx, hb, hml, hown, hW⟩ (c_X_replace l ca D M1 H.size ax (xs (nI (4 * k) + (1 : Int32)).toNatClampNeg) (xs (nI (4 * k) + (2 : Int32)).toNatClampNeg) (xs (nI (4 * k) + (3 : Int32)).toNatClampNeg) _) (cw_X_replace hW k_304 ⟨by decide, by decide⟩) (zPre_V hK hN hM1 h (zJ_x hJ) (by decide) rfl) rfl rfl hl.1.1 rfl (lv_room (Nat.le_of_ble_eq_true rfl)) d_L_225 ⟨Nat.le_trans (m := 600000) (by omega) (by decide), Nat.le_trans (m := 7302250) (by omega) (by decide)⟩) hM1 hM2 hd hS hA (fun r1 M1 H locs h hM1 hM2 hd hS => ?_)
      refine lv_aload_n hx hb d_L_228 rfl (hl.at 2 rfl) ?_
      refine lv_aload_n hx hb d_L_229 rfl (hl.at 0 rfl) ?_
      refine lv_iload_n hx hb d_L_230 rfl (hl.at 3 rfl) ?_
      refine lv_iconst (v := (1 : Int32)) hx hb d_L_231 (by decide) ?_
      refine lv_iadd hx hb d_L_232 ?_
      refine va_sld hx hb hX hbl hbA hS hin1 d_L_233 ?_
      refine lv_aload_n hx hb d_L_234 rfl (hl.at 0 rfl) ?_
      refine lv_iload_n hx hb d_L_235 rfl (hl.at 3 rfl) ?_
      refine lv_iconst (v := (2 : Int32)) hx hb d_L_236 (by decide) ?_
      refine lv_iadd hx hb d_L_237 ?_
      refine va_sld hx hb hX hbl hbA hS hin2 d_L_238 ?_
      refine lv_aload_n hx hb d_L_239 rfl (hl.at 0 rfl) ?_
      refine lv_iload_n hx hb d_L_240 rfl (hl.at 3 rfl) ?_
      refine lv_iconst (v := (3 : Int32)) hx hb d_L_241 (by decide) ?_
      refine lv_iadd hx hb d_L_242 ?_
      refine va_sld hx hb hX hbl hbA hS hin3 d_L_243 ?_
      refine z_ct2i (mc := 0) (ms := 0) (va_runV (As := [.int (xs (nI (4 * k) + (1 : Int32)).toNatClampNeg), .int (xs (nI (4 * k) + (2 : Int32)).toNatClampNeg), .int (xs (nI (4 * k) + (3 : Int32)).toNatClampNeg)]) (rest := [.int r1]) ⟨hx, hb, hml, hown, hW⟩ (c_Y_replace l ca D M2 H.size am (xs (nI (4 * k) + (1 : Int32)).toNatClampNeg) (xs (nI (4 * k) + (2 : Int32)).toNatClampNeg) (xs (nI (4 * k) + (3 : Int32)).toNatClampNeg) _) (cw_Y_replace hW k_774 ⟨by decide, by decide⟩) (zPre_V hK hN hM2 h (zJ_m hJ) (by decide) rfl) rfl rfl hl.1.1 rfl (lv_room (Nat.le_of_ble_eq_true rfl)) d_L_244 ⟨Nat.le_trans (m := 600000) (by omega) (by decide), Nat.le_trans (m := 7302250) (by omega) (by decide)⟩) hM2 hM1 hd.symm hS hA (fun r2 M2 H locs h hM2 hM1 hd hS => ?_)
      refine lv_icmp_eq (tgt := 544) hx hb d_L_247 rfl (fun _ => ?_) (fun c9 => absurd h.1 c9)
      refine W.widen (k := 55 + 2 * (k + 1)) (n := 3278 + 13 * (k + 1)) (by omega) (by omega) ?_
      exact next M1 M2 H locs hM1 hM2 hd.symm hS h.2
    by_cases c4 : y = (4 : Int32)
    · refine z_tsIn (tgt := 252) (4 : Int32) c4 hx hb d_L_32 (by decide) (by decide) rfl rfl ?_
      have h := op_arrive k ax am M1 M2 hJ (xs (nI (4 * k) + (1 : Int32)).toNatClampNeg) hk
      refine lv_aload_n hx hb d_L_252 rfl (hl.at 1 rfl) ?_
      refine lv_aload_n hx hb d_L_253 rfl (hl.at 0 rfl) ?_
      refine lv_iload_n hx hb d_L_254 rfl (hl.at 3 rfl) ?_
      refine lv_iconst (v := (1 : Int32)) hx hb d_L_255 (by decide) ?_
      refine lv_iadd hx hb d_L_256 ?_
      refine va_sld hx hb hX hbl hbA hS hin1 d_L_257 ?_
      refine z_ct2i (mc := 2) (ms := 13) (va_runV (As := [.int (xs (nI (4 * k) + (1 : Int32)).toNatClampNeg)]) (rest := []) ⟨hx, hb, hml, hown, hW⟩ (c_X_arrive l ca D M1 H.size ax (xs (nI (4 * k) + (1 : Int32)).toNatClampNeg) _) (cw_X_arrive hW k_308 ⟨by decide, by decide⟩) (zPre_V hK hN hM1 h (zJ_x hJ) (by decide) rfl) rfl rfl hl.1.1 rfl (lv_room (Nat.le_of_ble_eq_true rfl)) d_L_258 ⟨Nat.le_trans (m := 600000) (by omega) (by decide), Nat.le_trans (m := 7302250) (by omega) (by decide)⟩) hM1 hM2 hd hS hA (fun r1 M1 H locs h hM1 hM2 hd hS => ?_)
      refine lv_aload_n hx hb d_L_261 rfl (hl.at 2 rfl) ?_
      refine lv_aload_n hx hb d_L_262 rfl (hl.at 0 rfl) ?_
      refine lv_iload_n hx hb d_L_263 rfl (hl.at 3 rfl) ?_
      refine lv_iconst (v := (1 : Int32)) hx hb d_L_264 (by decide) ?_
      refine lv_iadd hx hb d_L_265 ?_
      refine va_sld hx hb hX hbl hbA hS hin1 d_L_266 ?_
      refine z_ct2i (mc := 0) (ms := 0) (va_runV (As := [.int (xs (nI (4 * k) + (1 : Int32)).toNatClampNeg)]) (rest := [.int r1]) ⟨hx, hb, hml, hown, hW⟩ (c_Y_arrive l ca D M2 H.size am (xs (nI (4 * k) + (1 : Int32)).toNatClampNeg) _) (cw_Y_arrive hW k_722 ⟨by decide, by decide⟩) (zPre_V hK hN hM2 h (zJ_m hJ) (by decide) rfl) rfl rfl hl.1.1 rfl (lv_room (Nat.le_of_ble_eq_true rfl)) d_L_267 ⟨Nat.le_trans (m := 600000) (by omega) (by decide), Nat.le_trans (m := 7302250) (by omega) (by decide)⟩) hM2 hM1 hd.symm hS hA (fun r2 M2 H locs h hM2 hM1 hd hS => ?_)
      refine lv_icmp_eq (tgt := 544) hx hb d_L_270 rfl (fun _ => ?_) (fun c9 => absurd h.1 c9)
      refine W.widen (k := 55 + 2 * (k + 1)) (n := 3278 + 13 * (k + 1)) (by omega) (by omega) ?_
      exact next M1 M2 H locs hM1 hM2 hd.symm hS h.2
    by_cases c5 : y = (5 : Int32)
    · refine z_tsIn (tgt := 275) (5 : Int32) c5 hx hb d_L_32 (by decide) (by decide) rfl rfl ?_
      have h := op_reply k ax am M1 M2 hJ (xs (nI (4 * k) + (1 : Int32)).toNatClampNeg) hk
      refine lv_aload_n hx hb d_L_275 rfl (hl.at 1 rfl) ?_
      refine lv_aload_n hx hb d_L_276 rfl (hl.at 0 rfl) ?_
      refine lv_iload_n hx hb d_L_277 rfl (hl.at 3 rfl) ?_
      refine lv_iconst (v := (1 : Int32)) hx hb d_L_278 (by decide) ?_
      refine lv_iadd hx hb d_L_279 ?_
      refine va_sld hx hb hX hbl hbA hS hin1 d_L_280 ?_
      refine z_ct2i (mc := 0) (ms := 0) (va_runV (As := [.int (xs (nI (4 * k) + (1 : Int32)).toNatClampNeg)]) (rest := []) ⟨hx, hb, hml, hown, hW⟩ (c_X_reply l ca D M1 H.size ax (xs (nI (4 * k) + (1 : Int32)).toNatClampNeg) _) (cw_X_reply hW k_444 ⟨by decide, by decide⟩) (zPre_V hK hN hM1 h (zJ_x hJ) (by decide) rfl) rfl rfl hl.1.1 rfl (lv_room (Nat.le_of_ble_eq_true rfl)) d_L_281 ⟨Nat.le_trans (m := 600000) (by omega) (by decide), Nat.le_trans (m := 7302250) (by omega) (by decide)⟩) hM1 hM2 hd hS hA (fun r1 M1 H locs h hM1 hM2 hd hS => ?_)
      refine lv_aload_n hx hb d_L_284 rfl (hl.at 2 rfl) ?_
      refine lv_aload_n hx hb d_L_285 rfl (hl.at 0 rfl) ?_
      refine lv_iload_n hx hb d_L_286 rfl (hl.at 3 rfl) ?_
      refine lv_iconst (v := (1 : Int32)) hx hb d_L_287 (by decide) ?_
      refine lv_iadd hx hb d_L_288 ?_
      refine va_sld hx hb hX hbl hbA hS hin1 d_L_289 ?_
      refine z_ct2i (mc := 0) (ms := 0) (va_runV (As := [.int (xs (nI (4 * k) + (1 : Int32)).toNatClampNeg)]) (rest := [.int r1]) ⟨hx, hb, hml, hown, hW⟩ (c_Y_reply l ca D M2 H.size am (xs (nI (4 * k) + (1 : Int32)).toNatClampNeg) _) (cw_Y_reply hW k_778 ⟨by decide, by decide⟩) (zPre_V hK hN hM2 h (zJ_m hJ) (by decide) rfl) rfl rfl hl.1.1 rfl (lv_room (Nat.le_of_ble_eq_true rfl)) d_L_290 ⟨Nat.le_trans (m := 600000) (by omega) (by decide), Nat.le_trans (m := 7302250) (by omega) (by decide)⟩) hM2 hM1 hd.symm hS hA (fun r2 M2 H locs h hM2 hM1 hd hS => ?_)
      refine lv_icmp_eq (tgt := 544) hx hb d_L_293 rfl (fun _ => ?_) (fun c9 => absurd h.1 c9)
      refine W.widen (k := 55 + 2 * (k + 1)) (n := 3278 + 13 * (k + 1)) (by omega) (by omega) ?_
      exact next M1 M2 H locs hM1 hM2 hd.symm hS h.2
    by_cases c6 : y = (6 : Int32)
    · refine z_tsIn (tgt := 298) (6 : Int32) c6 hx hb d_L_32 (by decide) (by decide) rfl rfl ?_
      have h := op_insert k ax am M1 M2 hJ hk
      refine lv_aload_n hx hb d_L_298 rfl (hl.at 1 rfl) ?_
      refine z_ct2i (mc := 0) (ms := 0) (va_runV (As := []) (rest := []) ⟨hx, hb, hml, hown, hW⟩ (c_X_insert l ca D M1 H.size ax _) (cw_X_insert hW k_478 ⟨by decide, by decide⟩) (zPre_V hK hN hM1 h (zJ_x hJ) (by decide) rfl) rfl rfl hl.1.1 rfl (lv_room (Nat.le_of_ble_eq_true rfl)) d_L_299 ⟨Nat.le_trans (m := 600000) (by omega) (by decide), Nat.le_trans (m := 7302250) (by omega) (by decide)⟩) hM1 hM2 hd hS hA (fun r1 M1 H locs h hM1 hM2 hd hS => ?_)
      refine lv_aload_n hx hb d_L_302 rfl (hl.at 2 rfl) ?_
      refine z_ct2i (mc := 0) (ms := 0) (va_runV (As := []) (rest := [.int r1]) ⟨hx, hb, hml, hown, hW⟩ (c_Y_insert l ca D M2 H.size am _) (cw_Y_insert hW k_790 ⟨by decide, by decide⟩) (zPre_V hK hN hM2 h (zJ_m hJ) (by decide) rfl) rfl rfl hl.1.1 rfl (lv_room (Nat.le_of_ble_eq_true rfl)) d_L_303 ⟨Nat.le_trans (m := 600000) (by omega) (by decide), Nat.le_trans (m := 7302250) (by omega) (by decide)⟩) hM2 hM1 hd.symm hS hA (fun r2 M2 H locs h hM2 hM1 hd hS => ?_)
      refine lv_icmp_eq (tgt := 544) hx hb d_L_306 rfl (fun _ => ?_) (fun c9 => absurd h.1 c9)
      refine W.widen (k := 55 + 2 * (k + 1)) (n := 3278 + 13 * (k + 1)) (by omega) (by omega) ?_
      exact next M1 M2 H locs hM1 hM2 hd.symm hS h.2
    by_cases c7 : y = (7 : Int32)
    · refine z_tsIn (tgt := 311) (7 : Int32) c7 hx hb d_L_32 (by decide) (by decide) rfl rfl ?_
      have h := op_feedback k ax am M1 M2 hJ hk
      refine lv_aload_n hx hb d_L_311 rfl (hl.at 1 rfl) ?_
      refine z_ct2i (mc := 0) (ms := 0) (va_runV (As := []) (rest := []) ⟨hx, hb, hml, hown, hW⟩ (c_X_feedback l ca D M1 H.size ax _) (cw_X_feedback hW k_489 ⟨by decide, by decide⟩) (zPre_V hK hN hM1 h (zJ_x hJ) (by decide) rfl) rfl rfl hl.1.1 rfl (lv_room (Nat.le_of_ble_eq_true rfl)) d_L_312 ⟨Nat.le_trans (m := 600000) (by omega) (by decide), Nat.le_trans (m := 7302250) (by omega) (by decide)⟩) hM1 hM2 hd hS hA (fun r1 M1 H locs h hM1 hM2 hd hS => ?_)
      refine lv_aload_n hx hb d_L_315 rfl (hl.at 2 rfl) ?_
      refine z_ct2i (mc := 0) (ms := 0) (va_runV (As := []) (rest := [.int r1]) ⟨hx, hb, hml, hown, hW⟩ (c_Y_feedback l ca D M2 H.size am _) (cw_Y_feedback hW k_758 ⟨by decide, by decide⟩) (zPre_V hK hN hM2 h (zJ_m hJ) (by decide) rfl) rfl rfl hl.1.1 rfl (lv_room (Nat.le_of_ble_eq_true rfl)) d_L_316 ⟨Nat.le_trans (m := 600000) (by omega) (by decide), Nat.le_trans (m := 7302250) (by omega) (by decide)⟩) hM2 hM1 hd.symm hS hA (fun r2 M2 H locs h hM2 hM1 hd hS => ?_)
      refine lv_icmp_eq (tgt := 544) hx hb d_L_319 rfl (fun _ => ?_) (fun c9 => absurd h.1 c9)
      refine W.widen (k := 55 + 2 * (k + 1)) (n := 3278 + 13 * (k + 1)) (by omega) (by omega) ?_
      exact next M1 M2 H locs hM1 hM2 hd.symm hS h.2
    by_cases c8 : y = (8 : Int32)
    · refine z_tsIn (tgt := 324) (8 : Int32) c8 hx hb d_L_32 (by decide) (by decide) rfl rfl ?_
      have h := op_report k ax am M1 M2 hJ hk
      refine lv_aload_n hx hb d_L_324 rfl (hl.at 1 rfl) ?_
      refine z_ct2i (mc := 0) (ms := 0) (va_runV (As := []) (rest := []) ⟨hx, hb, hml, hown, hW⟩ (c_X_report l ca D M1 H.size ax _) (cw_X_report hW k_514 ⟨by decide, by decide⟩) (zPre_V hK hN hM1 h (zJ_x hJ) (by decide) rfl) rfl rfl hl.1.1 rfl (lv_room (Nat.le_of_ble_eq_true rfl)) d_L_325 ⟨Nat.le_trans (m := 600000) (by omega) (by decide), Nat.le_trans (m := 7302250) (by omega) (by decide)⟩) hM1 hM2 hd hS hA (fun r1 M1 H locs h hM1 hM2 hd hS => ?_)
      refine lv_aload_n hx hb d_L_328 rfl (hl.at 2 rfl) ?_
      refine z_ct2i (mc := 0) (ms := 0) (va_runV (As := []) (rest := [.int r1]) ⟨hx, hb, hml, hown, hW⟩ (c_Y_report l ca D M2 H.size am _) (cw_Y_report hW k_794 ⟨by decide, by decide⟩) (zPre_V hK hN hM2 h (zJ_m hJ) (by decide) rfl) rfl rfl hl.1.1 rfl (lv_room (Nat.le_of_ble_eq_true rfl)) d_L_329 ⟨Nat.le_trans (m := 600000) (by omega) (by decide), Nat.le_trans (m := 7302250) (by omega) (by decide)⟩) hM2 hM1 hd.symm hS hA (fun r2 M2 H locs h hM2 hM1 hd hS => ?_)
      refine lv_icmp_eq (tgt := 544) hx hb d_L_332 rfl (fun _ => ?_) (fun c9 => absurd h.1 c9)
      refine W.widen (k := 55 + 2 * (k + 1)) (n := 3278 + 13 * (k + 1)) (by omega) (by omega) ?_
      exact next M1 M2 H locs hM1 hM2 hd.symm hS h.2
    by_cases c9 : y = (9 : Int32)
    · refine z_tsIn (tgt := 337) (9 : Int32) c9 hx hb d_L_32 (by decide) (by decide) rfl rfl ?_
      have h := op_goaway k ax am M1 M2 hJ hk
      refine lv_aload_n hx hb d_L_337 rfl (hl.at 1 rfl) ?_
      refine z_ct2i (mc := 0) (ms := 0) (va_runV (As := []) (rest := []) ⟨hx, hb, hml, hown, hW⟩ (c_X_goaway l ca D M1 H.size ax _) (cw_X_goaway hW k_519 ⟨by decide, by decide⟩) (zPre_V hK hN hM1 h (zJ_x hJ) (by decide) rfl) rfl rfl hl.1.1 rfl (lv_room (Nat.le_of_ble_eq_true rfl)) d_L_338 ⟨Nat.le_trans (m := 600000) (by omega) (by decide), Nat.le_trans (m := 7302250) (by omega) (by decide)⟩) hM1 hM2 hd hS hA (fun r1 M1 H locs h hM1 hM2 hd hS => ?_)
      refine lv_aload_n hx hb d_L_341 rfl (hl.at 2 rfl) ?_
      refine z_ct2i (mc := 0) (ms := 0) (va_runV (As := []) (rest := [.int r1]) ⟨hx, hb, hml, hown, hW⟩ (c_Y_goaway l ca D M2 H.size am _) (cw_Y_goaway hW k_762 ⟨by decide, by decide⟩) (zPre_V hK hN hM2 h (zJ_m hJ) (by decide) rfl) rfl rfl hl.1.1 rfl (lv_room (Nat.le_of_ble_eq_true rfl)) d_L_342 ⟨Nat.le_trans (m := 600000) (by omega) (by decide), Nat.le_trans (m := 7302250) (by omega) (by decide)⟩) hM2 hM1 hd.symm hS hA (fun r2 M2 H locs h hM2 hM1 hd hS => ?_)
      refine lv_icmp_eq (tgt := 544) hx hb d_L_345 rfl (fun _ => ?_) (fun c9 => absurd h.1 c9)
      refine W.widen (k := 55 + 2 * (k + 1)) (n := 3278 + 13 * (k + 1)) (by omega) (by omega) ?_
      exact next M1 M2 H locs hM1 hM2 hd.symm hS h.2
    by_cases c10 : y = (10 : Int32)
    · refine z_tsIn (tgt := 350) (10 : Int32) c10 hx hb d_L_32 (by decide) (by decide) rfl rfl ?_
      have h := op_notice k ax am M1 M2 hJ hk
      refine lv_aload_n hx hb d_L_350 rfl (hl.at 1 rfl) ?_
      refine z_ct2i (mc := 0) (ms := 0) (va_runV (As := []) (rest := []) ⟨hx, hb, hml, hown, hW⟩ (c_X_notice l ca D M1 H.size ax _) (cw_X_notice hW k_527 ⟨by decide, by decide⟩) (zPre_V hK hN hM1 h (zJ_x hJ) (by decide) rfl) rfl rfl hl.1.1 rfl (lv_room (Nat.le_of_ble_eq_true rfl)) d_L_351 ⟨Nat.le_trans (m := 600000) (by omega) (by decide), Nat.le_trans (m := 7302250) (by omega) (by decide)⟩) hM1 hM2 hd hS hA (fun r1 M1 H locs h hM1 hM2 hd hS => ?_)
      refine lv_aload_n hx hb d_L_354 rfl (hl.at 2 rfl) ?_
      refine z_ct2i (mc := 0) (ms := 0) (va_runV (As := []) (rest := [.int r1]) ⟨hx, hb, hml, hown, hW⟩ (c_Y_notice l ca D M2 H.size am _) (cw_Y_notice hW k_798 ⟨by decide, by decide⟩) (zPre_V hK hN hM2 h (zJ_m hJ) (by decide) rfl) rfl rfl hl.1.1 rfl (lv_room (Nat.le_of_ble_eq_true rfl)) d_L_355 ⟨Nat.le_trans (m := 600000) (by omega) (by decide), Nat.le_trans (m := 7302250) (by omega) (by decide)⟩) hM2 hM1 hd.symm hS hA (fun r2 M2 H locs h hM2 hM1 hd hS => ?_)
      refine lv_icmp_eq (tgt := 544) hx hb d_L_358 rfl (fun _ => ?_) (fun c9 => absurd h.1 c9)
      refine W.widen (k := 55 + 2 * (k + 1)) (n := 3278 + 13 * (k + 1)) (by omega) (by omega) ?_
      exact next M1 M2 H locs hM1 hM2 hd.symm hS h.2
    by_cases c11 : y = (11 : Int32)
    · refine z_tsIn (tgt := 363) (11 : Int32) c11 hx hb d_L_32 (by decide) (by decide) rfl rfl ?_
      have h := op_cancel k ax am M1 M2 hJ (xs (nI (4 * k) + (1 : Int32)).toNatClampNeg) hk
      refine lv_aload_n hx hb d_L_363 rfl (hl.at 1 rfl) ?_
      refine lv_aload_n hx hb d_L_364 rfl (hl.at 0 rfl) ?_
      refine lv_iload_n hx hb d_L_365 rfl (hl.at 3 rfl) ?_
      refine lv_iconst (v := (1 : Int32)) hx hb d_L_366 (by decide) ?_
      refine lv_iadd hx hb d_L_367 ?_
      refine va_sld hx hb hX hbl hbA hS hin1 d_L_368 ?_
      refine z_ct2i (mc := 0) (ms := 0) (va_runV (As := [.int (xs (nI (4 * k) + (1 : Int32)).toNatClampNeg)]) (rest := []) ⟨hx, hb, hml, hown, hW⟩ (c_X_cancel l ca D M1 H.size ax (xs (nI (4 * k) + (1 : Int32)).toNatClampNeg) _) (cw_X_cancel hW k_536 ⟨by decide, by decide⟩) (zPre_V hK hN hM1 h (zJ_x hJ) (by decide) rfl) rfl rfl hl.1.1 rfl (lv_room (Nat.le_of_ble_eq_true rfl)) d_L_369 ⟨Nat.le_trans (m := 600000) (by omega) (by decide), Nat.le_trans (m := 7302250) (by omega) (by decide)⟩) hM1 hM2 hd hS hA (fun r1 M1 H locs h hM1 hM2 hd hS => ?_)
      refine lv_aload_n hx hb d_L_372 rfl (hl.at 2 rfl) ?_
      refine lv_aload_n hx hb d_L_373 rfl (hl.at 0 rfl) ?_
      refine lv_iload_n hx hb d_L_374 rfl (hl.at 3 rfl) ?_
      refine lv_iconst (v := (1 : Int32)) hx hb d_L_375 (by decide) ?_
      refine lv_iadd hx hb d_L_376 ?_
      refine va_sld hx hb hX hbl hbA hS hin1 d_L_377 ?_
      refine z_ct2i (mc := 0) (ms := 0) (va_runV (As := [.int (xs (nI (4 * k) + (1 : Int32)).toNatClampNeg)]) (rest := [.int r1]) ⟨hx, hb, hml, hown, hW⟩ (c_Y_cancel l ca D M2 H.size am (xs (nI (4 * k) + (1 : Int32)).toNatClampNeg) _) (cw_Y_cancel hW k_802 ⟨by decide, by decide⟩) (zPre_V hK hN hM2 h (zJ_m hJ) (by decide) rfl) rfl rfl hl.1.1 rfl (lv_room (Nat.le_of_ble_eq_true rfl)) d_L_378 ⟨Nat.le_trans (m := 600000) (by omega) (by decide), Nat.le_trans (m := 7302250) (by omega) (by decide)⟩) hM2 hM1 hd.symm hS hA (fun r2 M2 H locs h hM2 hM1 hd hS => ?_)
      refine lv_icmp_eq (tgt := 544) hx hb d_L_381 rfl (fun _ => ?_) (fun c9 => absurd h.1 c9)
      refine W.widen (k := 55 + 2 * (k + 1)) (n := 3278 + 13 * (k + 1)) (by omega) (by omega) ?_
      exact next M1 M2 H locs hM1 hM2 hd.symm hS h.2
    by_cases c12 : y = (12 : Int32)
    · refine z_tsIn (tgt := 386) (12 : Int32) c12 hx hb d_L_32 (by decide) (by decide) rfl rfl ?_
      have h := op_tick k ax am M1 M2 hJ (xs (nI (4 * k) + (1 : Int32)).toNatClampNeg) hk
      refine lv_aload_n hx hb d_L_386 rfl (hl.at 1 rfl) ?_
      refine lv_aload_n hx hb d_L_387 rfl (hl.at 0 rfl) ?_
      refine lv_iload_n hx hb d_L_388 rfl (hl.at 3 rfl) ?_
      refine lv_iconst (v := (1 : Int32)) hx hb d_L_389 (by decide) ?_
      refine lv_iadd hx hb d_L_390 ?_
      refine va_sld hx hb hX hbl hbA hS hin1 d_L_391 ?_
      refine z_ct2i (mc := 0) (ms := 0) (va_runV (As := [.int (xs (nI (4 * k) + (1 : Int32)).toNatClampNeg)]) (rest := []) ⟨hx, hb, hml, hown, hW⟩ (c_X_tick l ca D M1 H.size ax (xs (nI (4 * k) + (1 : Int32)).toNatClampNeg) _) (cw_X_tick hW k_540 ⟨by decide, by decide⟩) (zPre_V hK hN hM1 h (zJ_x hJ) (by decide) rfl) rfl rfl hl.1.1 rfl (lv_room (Nat.le_of_ble_eq_true rfl)) d_L_392 ⟨Nat.le_trans (m := 600000) (by omega) (by decide), Nat.le_trans (m := 7302250) (by omega) (by decide)⟩) hM1 hM2 hd hS hA (fun r1 M1 H locs h hM1 hM2 hd hS => ?_)
      refine lv_aload_n hx hb d_L_395 rfl (hl.at 2 rfl) ?_
      refine lv_aload_n hx hb d_L_396 rfl (hl.at 0 rfl) ?_
      refine lv_iload_n hx hb d_L_397 rfl (hl.at 3 rfl) ?_
      refine lv_iconst (v := (1 : Int32)) hx hb d_L_398 (by decide) ?_
      refine lv_iadd hx hb d_L_399 ?_
      refine va_sld hx hb hX hbl hbA hS hin1 d_L_400 ?_
      refine z_ct2i (mc := 0) (ms := 0) (va_runV (As := [.int (xs (nI (4 * k) + (1 : Int32)).toNatClampNeg)]) (rest := [.int r1]) ⟨hx, hb, hml, hown, hW⟩ (c_Y_tick l ca D M2 H.size am (xs (nI (4 * k) + (1 : Int32)).toNatClampNeg) _) (cw_Y_tick hW k_806 ⟨by decide, by decide⟩) (zPre_V hK hN hM2 h (zJ_m hJ) (by decide) rfl) rfl rfl hl.1.1 rfl (lv_room (Nat.le_of_ble_eq_true rfl)) d_L_401 ⟨Nat.le_trans (m := 600000) (by omega) (by decide), Nat.le_trans (m := 7302250) (by omega) (by decide)⟩) hM2 hM1 hd.symm hS hA (fun r2 M2 H locs h hM2 hM1 hd hS => ?_)
      refine lv_icmp_eq (tgt := 544) hx hb d_L_404 rfl (fun _ => ?_) (fun c9 => absurd h.1 c9)
      refine W.widen (k := 55 + 2 * (k + 1)) (n := 3278 + 13 * (k + 1)) (by omega) (by omega) ?_
      exact next M1 M2 H locs hM1 hM2 hd.symm hS h.2
    by_cases c13 : y = (13 : Int32)
    · refine z_tsIn (tgt := 409) (13 : Int32) c13 hx hb d_L_32 (by decide) (by decide) rfl rfl ?_
      have h := op_outcome k ax am M1 M2 hJ (xs (nI (4 * k) + (1 : Int32)).toNatClampNeg) hk
      refine lv_aload_n hx hb d_L_409 rfl (hl.at 1 rfl) ?_
      refine lv_aload_n hx hb d_L_410 rfl (hl.at 0 rfl) ?_
      refine lv_iload_n hx hb d_L_411 rfl (hl.at 3 rfl) ?_
      refine lv_iconst (v := (1 : Int32)) hx hb d_L_412 (by decide) ?_
      refine lv_iadd hx hb d_L_413 ?_
      refine va_sld hx hb hX hbl hbA hS hin1 d_L_414 ?_
      refine z_ct2i (mc := 0) (ms := 0) (va_runV (As := [.int (xs (nI (4 * k) + (1 : Int32)).toNatClampNeg)]) (rest := []) ⟨hx, hb, hml, hown, hW⟩ (c_X_outcome l ca D M1 H.size ax (xs (nI (4 * k) + (1 : Int32)).toNatClampNeg) _) (cw_X_outcome hW k_544 ⟨by decide, by decide⟩) (zPre_V hK hN hM1 h (zJ_x hJ) (by decide) rfl) rfl rfl hl.1.1 rfl (lv_room (Nat.le_of_ble_eq_true rfl)) d_L_415 ⟨Nat.le_trans (m := 600000) (by omega) (by decide), Nat.le_trans (m := 7302250) (by omega) (by decide)⟩) hM1 hM2 hd hS hA (fun r1 M1 H locs h hM1 hM2 hd hS => ?_)
      refine lv_aload_n hx hb d_L_418 rfl (hl.at 2 rfl) ?_
      refine lv_aload_n hx hb d_L_419 rfl (hl.at 0 rfl) ?_
      refine lv_iload_n hx hb d_L_420 rfl (hl.at 3 rfl) ?_
      refine lv_iconst (v := (1 : Int32)) hx hb d_L_421 (by decide) ?_
      refine lv_iadd hx hb d_L_422 ?_
      refine va_sld hx hb hX hbl hbA hS hin1 d_L_423 ?_
      refine z_ct2i (mc := 0) (ms := 0) (va_runV (As := [.int (xs (nI (4 * k) + (1 : Int32)).toNatClampNeg)]) (rest := [.int r1]) ⟨hx, hb, hml, hown, hW⟩ (c_Y_outcome l ca D M2 H.size am (xs (nI (4 * k) + (1 : Int32)).toNatClampNeg) _) (cw_Y_outcome hW k_810 ⟨by decide, by decide⟩) (zPre_V hK hN hM2 h (zJ_m hJ) (by decide) rfl) rfl rfl hl.1.1 rfl (lv_room (Nat.le_of_ble_eq_true rfl)) d_L_424 ⟨Nat.le_trans (m := 600000) (by omega) (by decide), Nat.le_trans (m := 7302250) (by omega) (by decide)⟩) hM2 hM1 hd.symm hS hA (fun r2 M2 H locs h hM2 hM1 hd hS => ?_)
      refine lv_icmp_eq (tgt := 544) hx hb d_L_427 rfl (fun _ => ?_) (fun c9 => absurd h.1 c9)
      refine W.widen (k := 55 + 2 * (k + 1)) (n := 3278 + 13 * (k + 1)) (by omega) (by omega) ?_
      exact next M1 M2 H locs hM1 hM2 hd.symm hS h.2
    by_cases c14 : y = (14 : Int32)
    · refine z_tsIn (tgt := 432) (14 : Int32) c14 hx hb d_L_32 (by decide) (by decide) rfl rfl ?_
      have h := op_content k ax am M1 M2 hJ (xs (nI (4 * k) + (1 : Int32)).toNatClampNeg) hk
      refine lv_aload_n hx hb d_L_432 rfl (hl.at 1 rfl) ?_
      refine lv_aload_n hx hb d_L_433 rfl (hl.at 0 rfl) ?_
      refine lv_iload_n hx hb d_L_434 rfl (hl.at 3 rfl) ?_
      refine lv_iconst (v := (1 : Int32)) hx hb d_L_435 (by decide) ?_
      refine lv_iadd hx hb d_L_436 ?_
      refine va_sld hx hb hX hbl hbA hS hin1 d_L_437 ?_
      refine z_ct2i (mc := 0) (ms := 0) (va_runV (As := [.int (xs (nI (4 * k) + (1 : Int32)).toNatClampNeg)]) (rest := []) ⟨hx, hb, hml, hown, hW⟩ (c_X_content l ca D M1 H.size ax (xs (nI (4 * k) + (1 : Int32)).toNatClampNeg) _) (cw_X_content hW k_548 ⟨by decide, by decide⟩) (zPre_V hK hN hM1 h (zJ_x hJ) (by decide) rfl) rfl rfl hl.1.1 rfl (lv_room (Nat.le_of_ble_eq_true rfl)) d_L_438 ⟨Nat.le_trans (m := 600000) (by omega) (by decide), Nat.le_trans (m := 7302250) (by omega) (by decide)⟩) hM1 hM2 hd hS hA (fun r1 M1 H locs h hM1 hM2 hd hS => ?_)
      refine lv_aload_n hx hb d_L_441 rfl (hl.at 2 rfl) ?_
      refine lv_aload_n hx hb d_L_442 rfl (hl.at 0 rfl) ?_
      refine lv_iload_n hx hb d_L_443 rfl (hl.at 3 rfl) ?_
      refine lv_iconst (v := (1 : Int32)) hx hb d_L_444 (by decide) ?_
      refine lv_iadd hx hb d_L_445 ?_
      refine va_sld hx hb hX hbl hbA hS hin1 d_L_446 ?_
      refine z_ct2i (mc := 0) (ms := 0) (va_runV (As := [.int (xs (nI (4 * k) + (1 : Int32)).toNatClampNeg)]) (rest := [.int r1]) ⟨hx, hb, hml, hown, hW⟩ (c_Y_content l ca D M2 H.size am (xs (nI (4 * k) + (1 : Int32)).toNatClampNeg) _) (cw_Y_content hW k_814 ⟨by decide, by decide⟩) (zPre_V hK hN hM2 h (zJ_m hJ) (by decide) rfl) rfl rfl hl.1.1 rfl (lv_room (Nat.le_of_ble_eq_true rfl)) d_L_447 ⟨Nat.le_trans (m := 600000) (by omega) (by decide), Nat.le_trans (m := 7302250) (by omega) (by decide)⟩) hM2 hM1 hd.symm hS hA (fun r2 M2 H locs h hM2 hM1 hd hS => ?_)
      refine lv_icmp_eq (tgt := 544) hx hb d_L_450 rfl (fun _ => ?_) (fun c9 => absurd h.1 c9)
      refine W.widen (k := 55 + 2 * (k + 1)) (n := 3278 + 13 * (k + 1)) (by omega) (by omega) ?_
      exact next M1 M2 H locs hM1 hM2 hd.symm hS h.2
    by_cases c15 : y = (15 : Int32)
    · refine z_tsIn (tgt := 455) (15 : Int32) c15 hx hb d_L_32 (by decide) (by decide) rfl rfl ?_
      have h := op_stored k ax am M1 M2 hJ (xs (nI (4 * k) + (1 : Int32)).toNatClampNeg) (xs (nI (4 * k) + (2 : Int32)).toNatClampNeg) hk
      refine lv_aload_n hx hb d_L_455 rfl (hl.at 1 rfl) ?_
      refine lv_aload_n hx hb d_L_456 rfl (hl.at 0 rfl) ?_
      refine lv_iload_n hx hb d_L_457 rfl (hl.at 3 rfl) ?_
      refine lv_iconst (v := (1 : Int32)) hx hb d_L_458 (by decide) ?_
      refine lv_iadd hx hb d_L_459 ?_
      refine va_sld hx hb hX hbl hbA hS hin1 d_L_460 ?_
      refine lv_aload_n hx hb d_L_461 rfl (hl.at 0 rfl) ?_
      refine lv_iload_n hx hb d_L_462 rfl (hl.at 3 rfl) ?_
      refine lv_iconst (v := (2 : Int32)) hx hb d_L_463 (by decide) ?_
      refine lv_iadd hx hb d_L_464 ?_
      refine va_sld hx hb hX hbl hbA hS hin2 d_L_465 ?_
      refine z_ct2i (mc := 0) (ms := 0) (va_runV (As := [.int (xs (nI (4 * k) + (1 : Int32)).toNatClampNeg), .int (xs (nI (4 * k) + (2 : Int32)).toNatClampNeg)]) (rest := []) ⟨hx, hb, hml, hown, hW⟩ (c_X_stored l ca D M1 H.size ax (xs (nI (4 * k) + (1 : Int32)).toNatClampNeg) (xs (nI (4 * k) + (2 : Int32)).toNatClampNeg) _) (cw_X_stored hW k_552 ⟨by decide, by decide⟩) (zPre_V hK hN hM1 h (zJ_x hJ) (by decide) rfl) rfl rfl hl.1.1 rfl (lv_room (Nat.le_of_ble_eq_true rfl)) d_L_466 ⟨Nat.le_trans (m := 600000) (by omega) (by decide), Nat.le_trans (m := 7302250) (by omega) (by decide)⟩) hM1 hM2 hd hS hA (fun r1 M1 H locs h hM1 hM2 hd hS => ?_)
      refine lv_aload_n hx hb d_L_469 rfl (hl.at 2 rfl) ?_
      refine lv_aload_n hx hb d_L_470 rfl (hl.at 0 rfl) ?_
      refine lv_iload_n hx hb d_L_471 rfl (hl.at 3 rfl) ?_
      refine lv_iconst (v := (1 : Int32)) hx hb d_L_472 (by decide) ?_
      refine lv_iadd hx hb d_L_473 ?_
      refine va_sld hx hb hX hbl hbA hS hin1 d_L_474 ?_
      refine lv_aload_n hx hb d_L_475 rfl (hl.at 0 rfl) ?_
      refine lv_iload_n hx hb d_L_476 rfl (hl.at 3 rfl) ?_
      refine lv_iconst (v := (2 : Int32)) hx hb d_L_477 (by decide) ?_
      refine lv_iadd hx hb d_L_478 ?_
      refine va_sld hx hb hX hbl hbA hS hin2 d_L_479 ?_
      refine z_ct2i (mc := 0) (ms := 0) (va_runV (As := [.int (xs (nI (4 * k) + (1 : Int32)).toNatClampNeg), .int (xs (nI (4 * k) + (2 : Int32)).toNatClampNeg)]) (rest := [.int r1]) ⟨hx, hb, hml, hown, hW⟩ (c_Y_stored l ca D M2 H.size am (xs (nI (4 * k) + (1 : Int32)).toNatClampNeg) (xs (nI (4 * k) + (2 : Int32)).toNatClampNeg) _) (cw_Y_stored hW k_818 ⟨by decide, by decide⟩) (zPre_V hK hN hM2 h (zJ_m hJ) (by decide) rfl) rfl rfl hl.1.1 rfl (lv_room (Nat.le_of_ble_eq_true rfl)) d_L_480 ⟨Nat.le_trans (m := 600000) (by omega) (by decide), Nat.le_trans (m := 7302250) (by omega) (by decide)⟩) hM2 hM1 hd.symm hS hA (fun r2 M2 H locs h hM2 hM1 hd hS => ?_)
      refine lv_icmp_eq (tgt := 544) hx hb d_L_483 rfl (fun _ => ?_) (fun c9 => absurd h.1 c9)
      refine W.widen (k := 55 + 2 * (k + 1)) (n := 3278 + 13 * (k + 1)) (by omega) (by omega) ?_
      exact next M1 M2 H locs hM1 hM2 hd.symm hS h.2
    by_cases c16 : y = (16 : Int32)
    · refine z_tsIn (tgt := 488) (16 : Int32) c16 hx hb d_L_32 (by decide) (by decide) rfl rfl ?_
      have h := op_entry k ax am M1 M2 hJ (xs (nI (4 * k) + (1 : Int32)).toNatClampNeg) (xs (nI (4 * k) + (2 : Int32)).toNatClampNeg) hk
      refine lv_aload_n hx hb d_L_488 rfl (hl.at 1 rfl) ?_
      refine lv_aload_n hx hb d_L_489 rfl (hl.at 0 rfl) ?_
      refine lv_iload_n hx hb d_L_490 rfl (hl.at 3 rfl) ?_
      refine lv_iconst (v := (1 : Int32)) hx hb d_L_491 (by decide) ?_
      refine lv_iadd hx hb d_L_492 ?_
      refine va_sld hx hb hX hbl hbA hS hin1 d_L_493 ?_
      refine lv_aload_n hx hb d_L_494 rfl (hl.at 0 rfl) ?_
      refine lv_iload_n hx hb d_L_495 rfl (hl.at 3 rfl) ?_
      refine lv_iconst (v := (2 : Int32)) hx hb d_L_496 (by decide) ?_
      refine lv_iadd hx hb d_L_497 ?_
      refine va_sld hx hb hX hbl hbA hS hin2 d_L_498 ?_
      refine z_ct2i (mc := 0) (ms := 0) (va_runV (As := [.int (xs (nI (4 * k) + (1 : Int32)).toNatClampNeg), .int (xs (nI (4 * k) + (2 : Int32)).toNatClampNeg)]) (rest := []) ⟨hx, hb, hml, hown, hW⟩ (c_X_entry l ca D M1 H.size ax (xs (nI (4 * k) + (1 : Int32)).toNatClampNeg) (xs (nI (4 * k) + (2 : Int32)).toNatClampNeg) _) (cw_X_entry hW k_561 ⟨by decide, by decide⟩) (zPre_V hK hN hM1 h (zJ_x hJ) (by decide) rfl) rfl rfl hl.1.1 rfl (lv_room (Nat.le_of_ble_eq_true rfl)) d_L_499 ⟨Nat.le_trans (m := 600000) (by omega) (by decide), Nat.le_trans (m := 7302250) (by omega) (by decide)⟩) hM1 hM2 hd hS hA (fun r1 M1 H locs h hM1 hM2 hd hS => ?_)
      refine lv_aload_n hx hb d_L_502 rfl (hl.at 2 rfl) ?_
      refine lv_aload_n hx hb d_L_503 rfl (hl.at 0 rfl) ?_
      refine lv_iload_n hx hb d_L_504 rfl (hl.at 3 rfl) ?_
      refine lv_iconst (v := (1 : Int32)) hx hb d_L_505 (by decide) ?_
      refine lv_iadd hx hb d_L_506 ?_
      refine va_sld hx hb hX hbl hbA hS hin1 d_L_507 ?_
      refine lv_aload_n hx hb d_L_508 rfl (hl.at 0 rfl) ?_
      refine lv_iload_n hx hb d_L_509 rfl (hl.at 3 rfl) ?_
      refine lv_iconst (v := (2 : Int32)) hx hb d_L_510 (by decide) ?_
      refine lv_iadd hx hb d_L_511 ?_
      refine va_sld hx hb hX hbl hbA hS hin2 d_L_512 ?_
      refine z_ct2i (mc := 0) (ms := 0) (va_runV (As := [.int (xs (nI (4 * k) + (1 : Int32)).toNatClampNeg), .int (xs (nI (4 * k) + (2 : Int32)).toNatClampNeg)]) (rest := [.int r1]) ⟨hx, hb, hml, hown, hW⟩ (c_Y_entry l ca D M2 H.size am (xs (nI (4 * k) + (1 : Int32)).toNatClampNeg) (xs (nI (4 * k) + (2 : Int32)).toNatClampNeg) _) (cw_Y_entry hW k_822 ⟨by decide, by decide⟩) (zPre_V hK hN hM2 h (zJ_m hJ) (by decide) rfl) rfl rfl hl.1.1 rfl (lv_room (Nat.le_of_ble_eq_true rfl)) d_L_513 ⟨Nat.le_trans (m := 600000) (by omega) (by decide), Nat.le_trans (m := 7302250) (by omega) (by decide)⟩) hM2 hM1 hd.symm hS hA (fun r2 M2 H locs h hM2 hM1 hd hS => ?_)
      refine lv_icmp_eq (tgt := 544) hx hb d_L_516 rfl (fun _ => ?_) (fun c9 => absurd h.1 c9)
      refine W.widen (k := 55 + 2 * (k + 1)) (n := 3278 + 13 * (k + 1)) (by omega) (by omega) ?_
      exact next M1 M2 H locs hM1 hM2 hd.symm hS h.2
    by_cases c17 : y = (17 : Int32)
    · refine z_tsIn (tgt := 521) (17 : Int32) c17 hx hb d_L_32 (by decide) (by decide) rfl rfl ?_
      have h := op_count k ax am M1 M2 hJ (xs (nI (4 * k) + (1 : Int32)).toNatClampNeg) hk
      refine lv_aload_n hx hb d_L_521 rfl (hl.at 1 rfl) ?_
      refine lv_aload_n hx hb d_L_522 rfl (hl.at 0 rfl) ?_
      refine lv_iload_n hx hb d_L_523 rfl (hl.at 3 rfl) ?_
      refine lv_iconst (v := (1 : Int32)) hx hb d_L_524 (by decide) ?_
      refine lv_iadd hx hb d_L_525 ?_
      refine va_sld hx hb hX hbl hbA hS hin1 d_L_526 ?_
      refine z_ct2i (mc := 0) (ms := 0) (va_runV (As := [.int (xs (nI (4 * k) + (1 : Int32)).toNatClampNeg)]) (rest := []) ⟨hx, hb, hml, hown, hW⟩ (c_X_count l ca D M1 H.size ax (xs (nI (4 * k) + (1 : Int32)).toNatClampNeg) _) (cw_X_count hW k_569 ⟨by decide, by decide⟩) (zPre_V hK hN hM1 h (zJ_x hJ) (by decide) rfl) rfl rfl hl.1.1 rfl (lv_room (Nat.le_of_ble_eq_true rfl)) d_L_527 ⟨Nat.le_trans (m := 600000) (by omega) (by decide), Nat.le_trans (m := 7302250) (by omega) (by decide)⟩) hM1 hM2 hd hS hA (fun r1 M1 H locs h hM1 hM2 hd hS => ?_)
      refine lv_aload_n hx hb d_L_530 rfl (hl.at 2 rfl) ?_
      refine lv_aload_n hx hb d_L_531 rfl (hl.at 0 rfl) ?_
      refine lv_iload_n hx hb d_L_532 rfl (hl.at 3 rfl) ?_
      refine lv_iconst (v := (1 : Int32)) hx hb d_L_533 (by decide) ?_
      refine lv_iadd hx hb d_L_534 ?_
      refine va_sld hx hb hX hbl hbA hS hin1 d_L_535 ?_
      refine z_ct2i (mc := 0) (ms := 0) (va_runV (As := [.int (xs (nI (4 * k) + (1 : Int32)).toNatClampNeg)]) (rest := [.int r1]) ⟨hx, hb, hml, hown, hW⟩ (c_Y_count l ca D M2 H.size am (xs (nI (4 * k) + (1 : Int32)).toNatClampNeg) _) (cw_Y_count hW k_826 ⟨by decide, by decide⟩) (zPre_V hK hN hM2 h (zJ_m hJ) (by decide) rfl) rfl rfl hl.1.1 rfl (lv_room (Nat.le_of_ble_eq_true rfl)) d_L_536 ⟨Nat.le_trans (m := 600000) (by omega) (by decide), Nat.le_trans (m := 7302250) (by omega) (by decide)⟩) hM2 hM1 hd.symm hS hA (fun r2 M2 H locs h hM2 hM1 hd hS => ?_)
      refine lv_icmp_eq (tgt := 544) hx hb d_L_539 rfl (fun _ => ?_) (fun c9 => absurd h.1 c9)
      refine W.widen (k := 55 + 2 * (k + 1)) (n := 3278 + 13 * (k + 1)) (by omega) (by omega) ?_
      exact next M1 M2 H locs hM1 hM2 hd.symm hS h.2
    refine lv_tableOut (tgt := 544) (x := y) hx hb d_L_32 (by have z9 := z_out 18 (by decide) y (fun k hk => match k, hk with | 0, _ => c0 | 1, _ => c1 | 2, _ => c2 | 3, _ => c3 | 4, _ => c4 | 5, _ => c5 | 6, _ => c6 | 7, _ => c7 | 8, _ => c8 | 9, _ => c9 | 10, _ => c10 | 11, _ => c11 | 12, _ => c12 | 13, _ => c13 | 14, _ => c14 | 15, _ => c15 | 16, _ => c16 | 17, _ => c17 | (k + 18), hk => absurd hk (by omega)); omega) rfl ?_
    refine W.widen (k := 55 + 2 * (k + 1)) (n := 3278 + 13 * (k + 1)) (by omega) (by omega) ?_
    exact next M1 M2 H locs hM1 hM2 hd hS (zJ_skip hJ hk)
