theorem n_lt1 {x : Int32} {n : Nat} (hn : n < 1073741823) : x ≤ nI n ↔ x < nI (n + 1) := by
  rw [Int32.le_iff_toInt_le, Int32.lt_iff_toInt_lt, nI_toInt (by omega), nI_toInt (by omega)]
  omega
theorem jQ_5 {N : Nat → Nat → Nat} {v : Nat} (hv : N 5 0 ≤ v) (h : jQ N) : jQ (un N 5 0 v) := by
  intro q hq
  have hq : q < N 6 0 := by simpa [un] using hq
  have := h q hq
  simp [un] at this ⊢
  obtain ⟨a1, a2, a3, a4, a5, a6, a7, a8, a9, a10, a11, a12, a13⟩ := this
  exact ⟨a1, a2, a3, a4, a5, a6, a7, a8, a9, a10, a11, by omega, a13⟩
theorem op_tick (k ax am : Nat) (M1 M2 : zM) (hJ : zJ k ax am M1 M2) (y1 : Int32) (hk : k < 512) : w_X_tick M1 ax y1 (fun v M1' => w_Y_tick M2 am y1 (fun v' M2' => v = v' ∧ zJ (k + 1) ax am M1' M2')) := by
  have hJ0 := hJ
  obtain ⟨ad, ar, D, E, qa, c, N, Z, rfl, hy, ⟨hX, hS, hO, hK, hQ, hA, hT, hF, hL, hE⟩, jq, jr, jw, jk, jk2⟩ := hJ
  unfold w_X_tick
  rcases n_ix y1 (n := 1001) (by omega) with hx | ⟨d, hd, rfl⟩
  · have g0 : w_Y_tick M2 am y1 (fun v' M2' => (0 : Int32) = v' ∧ zJ (k + 1) (ad 8 0) am M1 M2') := y_wout (n := 1001) rfl hx (by omega) (n_yes rfl ⟨rfl, zJ_skip hJ0 hk⟩)
    exact n_ite (fun _ => g0) (fun hc => n_not (fun q => hx ⟨Int32.not_lt.mp hc, (n_lt1 (by omega)).mp (by rw [l1000] at q; exact q)⟩) g0)
  · refine n_not (by rw [l0, n_lt (by omega) (by omega)]; omega) (n_yes (by rw [l1000, n_le (by omega) (by omega)]; omega) ⟨hX.T hX.v8, c_setI hX hX.v8 5 (v := nI (N 5 0 + d)) (by rw [hX.I hX.v8, hS.1.2, n_add]) (fun M1 hX => ?_)⟩)
    refine y_win (n := 1001) rfl hd (by omega) (n_not (by decide) ⟨hy.T, y_setS hy 5 (N 5 0 + d) rfl (by rw [hy.sc 5 rfl, n_add]) (by omega) (fun M2 hy => ⟨rfl, ?_⟩)⟩)
    refine ⟨ad, ar, _, E, qa, c, _, Z, rfl, hy, ⟨zX_cV (by decide) (by decide) hX, ?_, rO_un (by decide) (by decide) (by decide) (rO_u3 (by decide) hO), rK_un (by decide) (by decide) (by decide) (by decide) (rK_u3 (by decide) hK), rQ_un (by decide) (by decide) (by decide) (by decide) (by decide) (by decide) (by decide) (by decide) (rQ_u3 (by decide) hQ), rA_un (by decide) (by decide) (by decide) (by decide) (by decide) (by decide) (by decide) (by decide) (by decide) (by decide) (rA_u3 (by decide) (by decide) hA), rT_un (by decide) (by decide) (by decide) (by decide) (by decide) (by decide) (by decide) (rT_u3 (by decide) (by decide) (by decide) (by decide) hT), rF_un (by decide) (by decide) (by decide) (by decide) (rF_u3 (by decide) (by decide) (by decide) hF), rL_un (by decide) (by decide) (by decide) (rL_u3 (by decide) hL), rE_un (by decide) (by decide) hE⟩, jQ_5 (by omega) jq, jR_un (by decide) (by decide) (by decide) (by decide) (by decide) (by decide) (by decide) (by decide) (by decide) jr, jW_un (by decide) (by decide) (by decide) (by decide) (by decide) (by decide) (by decide) (by decide) (by decide) (by decide) jw, ?_⟩
    · simp [rS, un, u3] at hS ⊢; exact ⟨hS.1.1, hS.2⟩
    · unfold jK at *
      simp [un] at jk jk2 ⊢
      refine ⟨⟨jk.1, by omega, by omega, jk.2.2.2⟩, fun r hr => ?_⟩
      have := jk2 r hr
      refine ⟨this.1, this.2.1, this.2.2.1, this.2.2.2.1, fun h => ?_⟩
      have := this.2.2.2.2 h
      exact ⟨this.1, this.2.1, by omega⟩
theorem op_outcome (k ax am : Nat) (M1 M2 : zM) (hJ : zJ k ax am M1 M2) (y1 : Int32) (hk : k < 512) : w_X_outcome M1 ax y1 (fun v M1' => w_Y_outcome M2 am y1 (fun v' M2' => v = v' ∧ zJ (k + 1) ax am M1' M2')) := by
  have hJ0 := hJ
  obtain ⟨ad, ar, D, E, qa, c, N, Z, rfl, hy, ⟨hX, hS, hO, hK, hQ, hA, hT, hF, hL, hE⟩, jq, jr, jw, jk, jk2⟩ := hJ
  unfold w_X_outcome w_Y_outcome
  refine ⟨hX.T hX.v8, ?_⟩
  rcases n_ix y1 (n := N 6 0) (by omega) with hx | ⟨q, hq, rfl⟩
  · refine c_reqAt0 hX hS.1.1 hx (n_yesO rfl ⟨hy.T, ?_⟩)
    rw [hy.sc 6 rfl]
    exact y_wout (n := N 6 0) rfl hx (by omega) (n_yes rfl ⟨rfl, zJ_skip hJ0 hk⟩)
  · refine c_reqAt hX hS.1.1 (by omega) hq (hE q hq).1 (n_noO rfl ⟨hX.T (by simp [cV]; exact hq), hy.T, ?_⟩)
    rw [hy.sc 6 rfl]
    refine y_win (n := N 6 0) rfl hq (by omega) (n_not (by decide) ⟨hy.T, y_get hy 9 20 60 rfl rfl ⟨(n_in (by omega) (by omega)).mpr (by omega), ?_, zJ_skip hJ0 hk⟩⟩)
    rw [hX.I (by simp [cV]; exact hq), n_cl (by omega), hy.rn 9 q rfl rfl (by decide), (hQ q hq).2.2.1]
theorem op_content (k ax am : Nat) (M1 M2 : zM) (hJ : zJ k ax am M1 M2) (y1 : Int32) (hk : k < 512) : w_X_content M1 ax y1 (fun v M1' => w_Y_content M2 am y1 (fun v' M2' => v = v' ∧ zJ (k + 1) ax am M1' M2')) := by
  have hJ0 := hJ
  obtain ⟨ad, ar, D, E, qa, c, N, Z, rfl, hy, ⟨hX, hS, hO, hK, hQ, hA, hT, hF, hL, hE⟩, jq, jr, jw, jk, jk2⟩ := hJ
  unfold w_X_content w_Y_content
  refine ⟨hX.T hX.v8, ?_⟩
  rcases n_ix y1 (n := N 6 0) (by omega) with hx | ⟨q, hq, rfl⟩
  · refine c_reqAt0 hX hS.1.1 hx (n_yesO rfl ⟨hy.T, ?_⟩)
    rw [hy.sc 6 rfl]
    exact y_wout (n := N 6 0) rfl hx (by omega) (n_yes rfl ⟨rfl, zJ_skip hJ0 hk⟩)
  · have hV : cV N 3 q := by simp [cV]; exact hq
    refine c_reqAt hX hS.1.1 (by omega) hq (hE q hq).1 (n_noO rfl ⟨hX.T hV, hy.T, ?_⟩)
    have hin : vp_in (nI q) 60 := (n_in (by omega) (by omega)).mpr (by omega)
    have e := (hQ q hq).2.2.2.1
    rw [hy.sc 6 rfl, hX.I hV, e]
    refine y_win (n := N 6 0) rfl hq (by omega) (n_not (by decide) ⟨hy.T, y_get hy 9 20 60 rfl rfl ⟨hin, ?_⟩⟩)
    rw [n_cl (by omega), hy.rn 9 q rfl rfl (by decide), l1, l2, l8, n_eq (hy.b _ _) (by omega), n_eq (hy.b _ _) (by omega), n_eq (hy.b _ _) (by omega)]
    have gg : ∀ (x : Int32), x = Z 14 q → ∃ b, zR M2 am 14 = some b ∧ ∃ n, zT M2 b = some (20, n) ∧ vp_in (nI q) n ∧ x = zI M2 b q ∧ zJ (k + 1) (ad 8 0) am M1 M2 := fun x hx => y_get hy 14 20 60 rfl rfl ⟨hin, by rw [hy.rz 14 q rfl rfl]; exact hx, zJ_skip hJ0 hk⟩
    refine n_ite (fun h1 => gg _ (if_pos (Or.inl h1))) (fun h1 => n_ite (fun h2 => gg _ (if_pos (Or.inr (Or.inl h2)))) (fun h2 => n_ite (fun h8 => gg _ (if_pos (Or.inr (Or.inr h8)))) (fun h8 => ⟨if_neg (fun z => ?_), zJ_skip hJ0 hk⟩)))
    rcases z with z | z | z
    · exact h1 z
    · exact h2 z
    · exact h8 z
theorem op_goaway (k ax am : Nat) (M1 M2 : zM) (hJ : zJ k ax am M1 M2) (hk : k < 512) : w_X_goaway M1 ax (fun v M1' => w_Y_goaway M2 am (fun v' M2' => v = v' ∧ zJ (k + 1) ax am M1' M2')) := by
  have hJ0 := hJ
  obtain ⟨ad, ar, D, E, qa, c, N, Z, rfl, hy, ⟨hX, hS, hO, hK, hQ, hA, hT, hF, hL, hE⟩, jq, jr, jw, jk, jk2⟩ := hJ
  unfold w_X_goaway w_S_announceLimit w_Y_goaway
  refine ⟨hX.T hX.v8, c_ref hX hX.v8 hX.e80 ⟨hX.T hX.v5, hX.T hX.v5, ?_⟩⟩
  rw [hX.I hX.v5, hS.2.1.2.2.1, l0, n_eq (hy.b _ _) (by omega)]
  refine n_ite (fun h0 => ?_) (fun h0 => ?_)
  · refine c_setI hX hX.v5 4 (v := nI 1) rfl (fun M1 hX => c_setI hX hX.v5 5 (v := nI (N 39 0)) ((hX.I hX.v5 3).trans hS.2.1.2.1) (fun M1 hX => ⟨hX.T hX.v8, c_ref hX hX.v8 hX.e80 ⟨hX.T hX.v5, hy.T, ?_⟩⟩))
    rw [hy.sc 36 rfl, n_eq (hy.b _ _) (by omega)]
    refine n_yes h0 (y_setS hy 36 1 rfl rfl (by omega) (fun M2 hy => y_setS hy 38 (N 39 0) rfl (hy.sc 39 rfl) (by omega) (fun M2 hy => ⟨(hX.I hX.v5 5).trans ((u3_s _ _ _ _ _).trans (hy.sc 38 rfl).symm), ?_⟩)))
    refine ⟨ad, ar, _, E, qa, c, _, Z, rfl, hy, ⟨zX_cV (by decide) (by decide) (zX_cV (by decide) (by decide) hX), ?_, rO_un (by decide) (by decide) (by decide) (rO_un (by decide) (by decide) (by decide) (rO_u3 (by decide) (rO_u3 (by decide) hO))), rK_un (by decide) (by decide) (by decide) (by decide) (rK_un (by decide) (by decide) (by decide) (by decide) (rK_u3 (by decide) (rK_u3 (by decide) hK))), rQ_un (by decide) (by decide) (by decide) (by decide) (by decide) (by decide) (by decide) (by decide) (rQ_un (by decide) (by decide) (by decide) (by decide) (by decide) (by decide) (by decide) (by decide) (rQ_u3 (by decide) (rQ_u3 (by decide) hQ))), rA_un (by decide) (by decide) (by decide) (by decide) (by decide) (by decide) (by decide) (by decide) (by decide) (by decide) (rA_un (by decide) (by decide) (by decide) (by decide) (by decide) (by decide) (by decide) (by decide) (by decide) (by decide) (rA_u3 (by decide) (by decide) (rA_u3 (by decide) (by decide) hA))), rT_un (by decide) (by decide) (by decide) (by decide) (by decide) (by decide) (by decide) (rT_un (by decide) (by decide) (by decide) (by decide) (by decide) (by decide) (by decide) (rT_u3 (by decide) (by decide) (by decide) (by decide) (rT_u3 (by decide) (by decide) (by decide) (by decide) hT))), rF_un (by decide) (by decide) (by decide) (by decide) (rF_un (by decide) (by decide) (by decide) (by decide) (rF_u3 (by decide) (by decide) (by decide) (rF_u3 (by decide) (by decide) (by decide) hF))), rL_un (by decide) (by decide) (by decide) (rL_un (by decide) (by decide) (by decide) (rL_u3 (by decide) (rL_u3 (by decide) hL))), rE_un (by decide) (by decide) (rE_un (by decide) (by decide) hE)⟩, ?_, jR_un (by decide) (by decide) (by decide) (by decide) (by decide) (by decide) (by decide) (by decide) (by decide) (jR_un (by decide) (by decide) (by decide) (by decide) (by decide) (by decide) (by decide) (by decide) (by decide) jr), jW_un (by decide) (by decide) (by decide) (by decide) (by decide) (by decide) (by decide) (by decide) (by decide) (by decide) (jW_un (by decide) (by decide) (by decide) (by decide) (by decide) (by decide) (by decide) (by decide) (by decide) (by decide) jw), ?_⟩
    · simp [rS, un, u3] at hS ⊢
      exact ⟨hS.1, ⟨hS.2.1.1, hS.2.1.2.1⟩, hS.2.2⟩
    · intro q hq
      have hq : q < N 6 0 := by simpa [un] using hq
      have := jq q hq
      have hb := jk.2.2.2.2.2.2.2.2.2 h0 q hq
      simp [un] at this ⊢
      obtain ⟨a1, a2, a3, a4, a5, a6, a7, a8, a9, a10, a11, a12⟩ := this
      refine ⟨a1, a2, a3, a4, a5, a6, a7, a8, a9, fun hz => ?_, a11, a12⟩
      rcases Nat.eq_zero_or_pos (N 16 q) with h | h
      · exact h
      · have := hb h; omega
    · unfold jK at *
      simp [un] at jk jk2 ⊢
      obtain ⟨b1, b2, b3, b4, b5, b6, b7, b8, b9, b10⟩ := jk
      exact ⟨⟨b1, by omega, by omega, b4, b6, by omega, b9⟩, jk2⟩
  · refine ⟨hX.T hX.v8, c_ref hX hX.v8 hX.e80 ⟨hX.T hX.v5, hy.T, ?_⟩⟩
    rw [hy.sc 36 rfl, n_eq (hy.b _ _) (by omega)]
    exact n_not h0 ⟨(hX.I hX.v5 5).trans (hS.2.1.2.2.2.trans (hy.sc 38 rfl).symm), zJ_skip hJ0 hk⟩
