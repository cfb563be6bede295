theorem op_entry (k ax am : Nat) (M1 M2 : zM) (hJ : zJ k ax am M1 M2) (y1 y2 : Int32) (hk : k < 512) : w_X_entry M1 ax y1 y2 (fun v M1' => w_Y_entry M2 am y1 y2 (fun v' M2' => v = v' ∧ zJ (k + 1) ax am M1' M2')) := by
  have hJ0 := hJ
  obtain ⟨ad, ar, D, E, qa, c, N, Z, rfl, hy, hcR, hjI⟩ := hJ
  obtain ⟨jq, jr, ⟨w1, w2, w3, w4, w5, w6⟩, jk, jk2⟩ := hjI
  have n60 := jk.1
  have t := cR_tF n60 hcR
  obtain ⟨hX, hS, hO, hK, hQ, hA, hT, hF, hL, hE⟩ := hcR
  have hc16 := cnt_le (fun p => decide (0 < N 16 p)) (N 6 0)
  have hc9 := cnt_le (fun p => !decide (N 9 p = 0)) (N 6 0)
  have hmin : N 28 0 - (N 28 0 - 5) = min (N 28 0) 5 := by omega
  unfold w_X_entry
  refine ⟨hX.T hX.v8, c_ref hX hX.v8 hX.e80 ⟨hX.T hX.v5, fun r5 hr5 => ?_⟩⟩
  rw [hX.R hX.v5, hX.e51] at hr5
  subst hr5
  rcases n_ix y1 (n := min (N 28 0) 5) (by omega) with hx | ⟨j, hj, rfl⟩
  · have yno : w_Y_entry M2 am y1 y2 (fun v' M2' => (-1 : Int32) = v' ∧ zJ (k + 1) (ad 8 0) am M1 M2') := by
      unfold w_Y_entry
      refine ⟨hy.T, y_oldest hy ?_⟩
      rw [hy.sc 28 rfl, n_sub (by omega), hmin]
      exact y_wout (n := min (N 28 0) 5) rfl hx (by omega) (n_yes rfl ⟨rfl, zJ_skip hJ0 hk⟩)
    refine n_ite (fun _ => yno) (fun h0 => ⟨ad 7 0, rfl, hX.T hX.v7, c_live hX t hy.b30 (n_not (fun z => hx ⟨Int32.not_lt.mp h0, z⟩) yno)⟩)
  · have yin : ∀ post : Int32 → zM → Prop, w_Y_within M2 y2 2 (fun r7 M8 => ((r7 = 0 → post (-1 : Int32) M8) ∧ (¬ (r7 = 0) → zT M8 am = some (9, 40) ∧ ((y2 = 0 → ∃ b20, zR M8 am 26 = some b20 ∧ ∃ n23, zT M8 b20 = some (20, n23) ∧ vp_in (((zI M8 am 28) - (1 : Int32)) - nI j) n23 ∧ post (zI M8 b20 (((zI M8 am 28) - (1 : Int32)) - nI j).toNatClampNeg) M8) ∧ (¬ (y2 = 0) → ((y2 = (1 : Int32) → ∃ b15, zR M8 am 27 = some b15 ∧ ∃ n18, zT M8 b15 = some (20, n18) ∧ vp_in (((zI M8 am 28) - (1 : Int32)) - nI j) n18 ∧ post (zI M8 b15 (((zI M8 am 28) - (1 : Int32)) - nI j).toNatClampNeg) M8) ∧ (¬ (y2 = (1 : Int32)) → w_Y_uses M8 am (((zI M8 am 28) - (1 : Int32)) - nI j) (-1 : Int32) (fun r13 M14 => post r13 M14)))))))) → w_Y_entry M2 am (nI j) y2 post := by
      intro post h
      unfold w_Y_entry
      refine ⟨hy.T, y_oldest hy ?_⟩
      rw [hy.sc 28 rfl, n_sub (by omega), hmin]
      exact y_win (n := min (N 28 0) 5) rfl hj (by omega) (n_not (by decide) h)
    have eX : zI M1 (ad 7 0) 4 - 1 - nI j = nI (N 28 0 - 1 - j) := by
      rw [hX.I hX.v7, t.2.2.1.1, l1, n_sub (by omega), n_sub (by omega)]
    have eY : zI M2 am 28 - 1 - nI j = nI (N 28 0 - 1 - j) := by
      rw [hy.sc 28 rfl, l1, n_sub (by omega), n_sub (by omega)]
    have hte := t.2.2.1.2.2 (N 28 0 - 1 - j) (by omega) (by omega)
    have hin : vp_in (nI (N 28 0 - 1 - j)) 180 := (n_in (by omega) (by omega)).mpr (by omega)
    refine n_not (by rw [l0, n_lt (by omega) (by omega)]; omega) ⟨ad 7 0, rfl, hX.T hX.v7, c_live hX t hy.b30 (n_yes (by rw [n_lt (by omega) (by omega)]; exact hj) ⟨hX.T hX.v7, ?_⟩)⟩
    rw [eX]
    rcases n_ix y2 (n := 3) (by omega) with hx | ⟨w, hw, rfl⟩
    · have ne : ∀ j : Nat, j < 3 → ¬ y2 = nI j := fun j hj q => hx (by subst q; exact ⟨by rw [l0, n_le (by omega) (by omega)]; omega, by rw [n_lt (by omega) (by omega)]; exact hj⟩)
      exact n_not (ne 0 (by omega)) (n_not (ne 1 (by omega)) (n_not (ne 2 (by omega)) (yin _ (y_wout (n := 3) rfl hx (by omega) (n_yes rfl ⟨rfl, zJ_skip hJ0 hk⟩)))))
    · rcases (show w = 0 ∨ w = 1 ∨ w = 2 by omega) with rfl | rfl | rfl
      · refine n_yes rfl (c_name hX (by omega) (yin _ (y_win (n := 3) rfl hw (by omega) (n_not (by decide) ⟨hy.T, n_yes rfl ?_⟩))))
        rw [eY]
        refine y_get hy 26 20 180 rfl rfl ⟨hin, ?_, zJ_skip hJ0 hk⟩
        rw [n_cl (by omega), hy.rn 26 _ rfl rfl (by decide), hte.1]
      · refine n_not (by decide) (n_yes rfl (c_value hX (by omega) (yin _ (y_win (n := 3) rfl hw (by omega) (n_not (by decide) ⟨hy.T, n_not (by decide) (n_yes rfl ?_)⟩)))))
        rw [eY]
        refine y_get hy 27 20 180 rfl rfl ⟨hin, ?_, zJ_skip hJ0 hk⟩
        rw [n_cl (by omega), hy.rz 27 _ rfl rfl, hte.2]
      · refine n_not (by decide) (n_not (by decide) (n_yes rfl (c_refs hX t (by omega) (yin _ (y_win (n := 3) rfl hw (by omega) (n_not (by decide) ⟨hy.T, n_not (by decide) (n_not (by decide) ?_)⟩))))))
        rw [eY]
        refine y_uses (ex := none) hy n60 (fun q z => by cases z) (by omega) (by omega) ⟨?_, zJ_skip hJ0 hk⟩
        rw [use_cnt jr.2.1]
theorem co_blocked {ad : Nat → Nat → Nat} {M : zM} {D : Nat → Nat → Nat → Int32} {E : Nat → Nat → Nat → Option Nat} {qa : Nat → Nat} {c : Nat} {N : Nat → Nat → Nat} {Z : Nat → Nat → Int32} {k : Nat} {post : Int32 → zM → Prop} (hc : cR ad M D E qa c N Z) (hj : jI k N) (K : post (nI (cnt (fun q => decide (N 15 q = 3)) (N 6 0))) M) : ∀ d i, i + d = N 6 0 → w_X_blockedAnswers_4 post (d + 1) M (ad 8 0) (nI (cnt (fun q => decide (N 15 q = 3)) i)) (nI i) := by
  obtain ⟨hX, hS, hO, hK, hQ, hA, hT, hF, hL, hE⟩ := hc
  have n60 := hj.2.2.2.1.1
  intro d
  induction d with
  | zero =>
    intro i hi
    rw [w_X_blockedAnswers_4, hX.I hX.v8, hS.1.1, n_le (by omega) (by omega)]
    have : i = N 6 0 := by omega
    subst this
    exact ⟨hX.T hX.v8, n_yes (by omega) K⟩
  | succ d ih =>
    intro i hi
    have hq : i < N 6 0 := by omega
    have hV : cV N 3 i := by simp [cV]; exact hq
    obtain ⟨a1, a2, a3, a4, a5, a6, a7, a8⟩ := hj.1 i hq
    have nx := ih (i + 1) (by omega)
    have nf : ¬ N 15 i = 3 → w_X_blockedAnswers_4 post (d + 1) M (ad 8 0) (nI (cnt (fun q => decide (N 15 q = 3)) i)) (nI i + 1) := by
      intro h
      rw [cnt_f (P := fun q => decide (N 15 q = 3)) (n := i) (by simp [h])] at nx
      rw [l1, n_add]; exact nx
    rw [w_X_blockedAnswers_4, hX.I hX.v8, hS.1.1, n_le (by omega) (by omega)]
    refine ⟨hX.T hX.v8, n_not (by omega) (c_reqAt hX hS.1.1 (by omega) hq (hE i hq).1 ⟨ad 3 i, rfl, ?_⟩)⟩
    unfold w_X_isBlocked
    rw [hX.R hV, (hE i hq).2.1]
    refine ⟨hX.T hV, ?_⟩
    rcases Nat.eq_zero_or_pos (N 16 i) with h16 | h16
    · rw [if_pos h16]
      exact n_yesO rfl (n_yes rfl (nf (fun z => by have := (a6 (Or.inr z)).1; omega)))
    · rw [if_neg (by omega)]
      have hV0 : cV N 0 i := by simp [cV]; exact ⟨hq, h16⟩
      refine n_noO rfl ⟨ad 0 i, rfl, hX.T hV0, ?_⟩
      rw [hX.I hV0, (hA i hq h16).2.2.1]
      by_cases h15 : N 15 i = 3
      · rw [if_pos h15]
        refine n_not (by decide) (n_not (by decide) ?_)
        rw [cnt_t (P := fun q => decide (N 15 q = 3)) (n := i) (by simp [h15])] at nx
        rw [l1, n_add, n_add]; exact nx
      · rw [if_neg h15]
        exact n_yes rfl (n_yes rfl (nf h15))
theorem yo_count {am : Nat} {ar : Nat → Nat} {M : zM} {N : Nat → Nat → Nat} {Z : Nat → Nat → Int32} {y1 : Int32} (hy : yR am ar M N Z) {post : Int32 → zM → Prop} (hn : N 6 0 ≤ 60) (hh : N 35 0 ≤ 572) (K : w_Y_count_7 post 1 M am y1 (nI (cnt (fun q => decide (N 15 q = 3)) (N 6 0))) (nI (cnt (fun q => ost N q) (N 6 0))) (nI (N 6 0))) : ∀ d i, i + d = N 6 0 → w_Y_count_7 post (d + 1) M am y1 (nI (cnt (fun q => decide (N 15 q = 3)) i)) (nI (cnt (fun q => ost N q) i)) (nI i) := by
  intro d
  induction d with
  | zero =>
    intro i hi
    have : i = N 6 0 := by omega
    subst this
    exact K
  | succ d ih =>
    intro i hi
    have nx := ih (i + 1) (by omega)
    rw [w_Y_count_7, hy.sc 6 rfl, n_le (by omega) (by omega)]
    refine ⟨hy.T, n_not (by omega) (y_get hy 15 20 60 rfl rfl ⟨(n_in (by omega) (by omega)).mpr (by omega), ?_⟩)⟩
    rw [n_cl (by omega), hy.rn 15 i rfl rfl (by decide), l3, n_eq (hy.b _ _) (by omega)]
    refine n_ite (fun h15 => y_out hy (by omega) hh ?_) (fun h15 => y_out hy (by omega) hh ?_)
    · rw [cnt_t (P := fun q => decide (N 15 q = 3)) (n := i) (by simp [h15])] at nx
      rw [bI_z, l1, n_add, n_add, n_add]
      refine n_ite (fun ho => ?_) (fun ho => ?_)
      · rw [cnt_f (P := fun q => ost N q) (n := i) ho] at nx; exact nx
      · rw [cnt_t (P := fun q => ost N q) (n := i) (by simpa using ho)] at nx; exact nx
    · rw [cnt_f (P := fun q => decide (N 15 q = 3)) (n := i) (by simp [h15])] at nx
      rw [bI_z, l1, n_add, n_add]
      refine n_ite (fun ho => ?_) (fun ho => ?_)
      · rw [cnt_f (P := fun q => ost N q) (n := i) ho] at nx; exact nx
      · rw [cnt_t (P := fun q => ost N q) (n := i) (by simpa using ho)] at nx; exact nx
theorem op_count (k ax am : Nat) (M1 M2 : zM) (hJ : zJ k ax am M1 M2) (y1 : Int32) (hk : k < 512) : w_X_count M1 ax y1 (fun v M1' => w_Y_count M2 am y1 (fun v' M2' => v = v' ∧ zJ (k + 1) ax am M1' M2')) := by
  have hJ0 := hJ
  obtain ⟨ad, ar, D, E, qa, c, N, Z, rfl, hy, hcR, hjI⟩ := hJ
  have hcR' := hcR
  have hjI' := hjI
  obtain ⟨jq, jr, ⟨w1, w2, w3, w4, w5, w6⟩, jk, jk2⟩ := hjI
  have n60 := jk.1
  have t := cR_tF n60 hcR
  obtain ⟨hX, hS, hO, hK, hQ, hA, hT, hF, hL, hE⟩ := hcR
  have hc16 := cnt_le (fun p => decide (0 < N 16 p)) (N 6 0)
  have hc9 := cnt_le (fun p => !decide (N 9 p = 0)) (N 6 0)
  have hab : ∀ i, i < N 34 0 → N 32 i = 0 → N 33 i < 60 := fun i hi h0 => by have := (w1 i hi).2 (by omega); omega
  have aL := aft_le N (j := N 35 0) (k := N 34 0) w2
  have yK : ∀ post : Int32 → zM → Prop, w_Y_count_7 post 1 M2 am y1 (nI (cnt (fun q => decide (N 15 q = 3)) (N 6 0))) (nI (cnt (fun q => ost N q) (N 6 0))) (nI (N 6 0)) → w_Y_count M2 am y1 post := fun post h => ⟨N 6 0 + 1, yo_count hy n60 (by omega) h (N 6 0) 0 (by omega)⟩
  have yL : ∀ (v : Int32) (M1' : zM), M1' = M1 → w_Y_count_7 (fun v' M2' => v = v' ∧ zJ (k + 1) (ad 8 0) am M1 M2') 1 M2 am y1 (nI (cnt (fun q => decide (N 15 q = 3)) (N 6 0))) (nI (cnt (fun q => ost N q) (N 6 0))) (nI (N 6 0)) → w_Y_count M2 am y1 (fun v' M2' => v = v' ∧ zJ (k + 1) (ad 8 0) am M1' M2') := fun v M1' e h => by subst e; exact yK _ h
  unfold w_X_count
  refine ⟨hX.T hX.v8, c_ref hX hX.v8 hX.e80 ⟨hX.T hX.v5, fun r5 hr5 => ?_⟩⟩
  rw [hX.R hX.v5, hX.e51] at hr5
  subst hr5
  have le : nI (N 6 0) ≤ nI (N 6 0) := (n_le (by omega) (by omega)).mpr (Nat.le_refl _)
  rcases n_ix y1 (n := 9) (by omega) with hx | ⟨w, hw, rfl⟩
  · have ne : ∀ j : Nat, j < 9 → ¬ y1 = nI j := fun j hj q => hx (by subst q; exact ⟨by rw [l0, n_le (by omega) (by omega)]; omega, by rw [n_lt (by omega) (by omega)]; exact hj⟩)
    refine n_not (ne 0 (by omega)) (n_not (ne 1 (by omega)) (n_not (ne 2 (by omega)) (n_not (ne 3 (by omega)) (n_not (ne 4 (by omega)) (n_not (ne 5 (by omega)) (n_not (ne 6 (by omega)) (n_not (ne 7 (by omega)) (n_not (ne 8 (by omega)) (yL _ _ rfl ?_)))))))))
    rw [w_Y_count_7, hy.sc 6 rfl]
    exact ⟨hy.T, n_yes le (n_not (ne 0 (by omega)) (n_not (ne 1 (by omega)) (n_not (ne 2 (by omega)) (n_not (ne 3 (by omega)) (n_not (ne 4 (by omega)) (n_not (ne 5 (by omega)) (n_not (ne 6 (by omega)) (n_not (ne 7 (by omega)) (n_not (ne 8 (by omega)) (⟨rfl, zJ_skip hJ0 hk⟩))))))))))⟩
  · rcases (show w = 0 ∨ w = 1 ∨ w = 2 ∨ w = 3 ∨ w = 4 ∨ w = 5 ∨ w = 6 ∨ w = 7 ∨ w = 8 by omega) with rfl | rfl | rfl | rfl | rfl | rfl | rfl | rfl | rfl
    · refine n_yes rfl ⟨ad 7 0, rfl, hX.T hX.v7, yL _ _ rfl ?_⟩
      rw [w_Y_count_7, hy.sc 6 rfl]
      refine ⟨hy.T, n_yes le ?_⟩
      exact n_yes rfl ⟨by rw [hX.I hX.v7, hy.sc 28 rfl]; exact hS.2.2.2.1, zJ_skip hJ0 hk⟩
    · refine n_not (by decide) (n_yes rfl ⟨ad 7 0, rfl, hX.T hX.v7, yL _ _ rfl ?_⟩)
      rw [w_Y_count_7, hy.sc 6 rfl]
      refine ⟨hy.T, n_yes le ?_⟩
      rw [hX.I hX.v7, hT.1, hy.sc 35 rfl]
      exact n_not (by decide) (n_yes rfl (y_after hy (by omega) (fun i hi => hab i (by omega)) (by omega) ⟨rfl, zJ_skip hJ0 hk⟩))
    · refine n_not (by decide) (n_not (by decide) (n_yes rfl (c_ref hX hX.v8 hX.e81 ⟨hX.T hX.v1, yL _ _ rfl ?_⟩)))
      rw [w_Y_count_7, hy.sc 6 rfl]
      refine ⟨hy.T, n_yes le ?_⟩
      exact n_not (by decide) (n_not (by decide) (n_yes rfl ⟨by rw [hX.I hX.v1, hy.sc 29 rfl]; exact hS.2.2.1.1, zJ_skip hJ0 hk⟩))
    · refine n_not (by decide) (n_not (by decide) (n_not (by decide) (n_yes rfl (c_ref hX hX.v8 hX.e81 ⟨hX.T hX.v1, yL _ _ rfl ?_⟩))))
      rw [w_Y_count_7, hy.sc 6 rfl]
      refine ⟨hy.T, n_yes le ?_⟩
      rw [hX.I hX.v1, hT.2.1, hy.sc 34 rfl]
      exact n_not (by decide) (n_not (by decide) (n_not (by decide) (n_yes rfl (y_after hy (by omega) (fun i hi => hab i (by omega)) (by omega) ⟨rfl, zJ_skip hJ0 hk⟩))))
    · refine n_not (by decide) (n_not (by decide) (n_not (by decide) (n_not (by decide) (n_yes rfl ⟨ad 7 0, rfl, hX.T hX.v7, yL _ _ rfl ?_⟩))))
      rw [w_Y_count_7, hy.sc 6 rfl]
      refine ⟨hy.T, n_yes le ?_⟩
      exact n_not (by decide) (n_not (by decide) (n_not (by decide) (n_not (by decide) (n_yes rfl ⟨by rw [hX.I hX.v7, hy.sc 30 rfl]; exact hS.2.2.2.2.1, zJ_skip hJ0 hk⟩))))
    · refine n_not (by decide) (n_not (by decide) (n_not (by decide) (n_not (by decide) (n_not (by decide) (n_yes rfl ⟨ad 7 0, rfl, hX.T hX.v7, yL _ _ rfl ?_⟩)))))
      rw [w_Y_count_7, hy.sc 6 rfl]
      refine ⟨hy.T, n_yes le ?_⟩
      exact n_not (by decide) (n_not (by decide) (n_not (by decide) (n_not (by decide) (n_not (by decide) (n_yes rfl ⟨by rw [hX.I hX.v7, hy.sc 31 rfl]; exact hS.2.2.2.2.2, zJ_skip hJ0 hk⟩)))))
    · refine n_not (by decide) (n_not (by decide) (n_not (by decide) (n_not (by decide) (n_not (by decide) (n_not (by decide) (n_yes rfl ⟨ad 7 0, rfl, hX.T hX.v7, c_outN (a := 0) hX t hy.b30 (by omega) (yL _ _ rfl ?_)⟩))))))
      rw [w_Y_count_7, hy.sc 6 rfl]
      refine ⟨hy.T, n_yes le ?_⟩
      exact n_not (by decide) (n_not (by decide) (n_not (by decide) (n_not (by decide) (n_not (by decide) (n_not (by decide) (n_yes rfl ⟨by congr 1; exact cnt_congr _ (fun i _ => by simp), zJ_skip hJ0 hk⟩))))))
    · refine n_not (by decide) (n_not (by decide) (n_not (by decide) (n_not (by decide) (n_not (by decide) (n_not (by decide) (n_not (by decide) (n_yes rfl ⟨ad 7 0, rfl, hX.T hX.v7, c_risk hX t hy.b30 (by omega) none (fun q z => by cases z) (yL _ _ rfl ?_)⟩)))))))
      rw [w_Y_count_7, hy.sc 6 rfl]
      refine ⟨hy.T, n_yes le ?_⟩
      rw [hy.sc 35 rfl]
      exact n_not (by decide) (n_not (by decide) (n_not (by decide) (n_not (by decide) (n_not (by decide) (n_not (by decide) (n_not (by decide) (n_yes rfl (y_after hy (by omega) (fun i hi => hab i (by omega)) (by omega) ⟨hy.T, y_risky (ex := none) hy n60 (fun q z => by cases z) (by omega) (by omega) ⟨rfl, zJ_skip hJ0 hk⟩⟩))))))))
    · refine n_not (by decide) (n_not (by decide) (n_not (by decide) (n_not (by decide) (n_not (by decide) (n_not (by decide) (n_not (by decide) (n_not (by decide) (n_yes rfl ⟨N 6 0 + 1, co_blocked hcR' hjI' (yL _ _ rfl ?_) (N 6 0) 0 (by omega)⟩))))))))
      rw [w_Y_count_7, hy.sc 6 rfl]
      refine ⟨hy.T, n_yes le ?_⟩
      exact n_not (by decide) (n_not (by decide) (n_not (by decide) (n_not (by decide) (n_not (by decide) (n_not (by decide) (n_not (by decide) (n_not (by decide) (n_yes rfl ⟨rfl, zJ_skip hJ0 hk⟩))))))))
