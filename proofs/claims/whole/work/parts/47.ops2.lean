theorem op_drop (k ax am : Nat) (M1 M2 : zM) (hJ : zJ k ax am M1 M2) (y1 : Int32) (hk : k < 512) : w_X_drop M1 ax y1 (fun v M1' => w_Y_drop M2 am y1 (fun v' M2' => v = v' ∧ zJ (k + 1) ax am M1' M2')) := by
  have hJ0 := hJ
  obtain ⟨ad, ar, D, E, qa, c, N, Z, rfl, hy, ⟨hX, hS, hO, hK, hQ, hA, hT, hF, hL, hE⟩, jq, jr, jw, jk, jk2⟩ := hJ
  unfold w_X_drop w_Y_drop
  refine ⟨hX.T hX.v8, c_ref hX hX.v8 hX.e80 ⟨hX.T hX.v5, ?_⟩⟩
  rcases n_ix y1 (n := 6) (by omega) with hx | ⟨r, hr, rfl⟩
  · exact c_resourceAt0 hX hx (n_yesO rfl (y_wout (n := 6) rfl hx (by omega) (n_yes rfl ⟨rfl, zJ_skip hJ0 hk⟩)))
  · refine c_resourceAt hX hr (n_noO rfl ⟨hX.T (hX.v4 hr), ?_⟩)
    have hin : vp_in (nI r) 6 := (n_in (by omega) (by omega)).mpr hr
    rw [hX.I (hX.v4 hr), (hO r hr).1, l0, n_eq (hy.b _ _) (by omega)]
    refine n_ite (fun h0 => ?_) (fun h0 => ?_)
    · refine y_win (n := 6) rfl hr (by omega) (n_not (by decide) ⟨hy.T, y_get hy 0 21 6 rfl rfl ⟨hin, ?_⟩⟩)
      rw [n_cl (by omega), hy.rn 0 r rfl rfl (by decide), n_eq (hy.b _ _) (by omega)]
      exact n_yes h0 ⟨rfl, zJ_skip hJ0 hk⟩
    · refine c_setI hX (hX.v4 hr) 0 (v := nI 0) rfl (fun M1 hX => ?_)
      refine y_win (n := 6) rfl hr (by omega) (n_not (by decide) ⟨hy.T, y_get hy 0 21 6 rfl rfl ⟨hin, ?_⟩⟩)
      rw [n_cl (by omega), hy.rn 0 r rfl rfl (by decide), n_eq (hy.b _ _) (by omega)]
      refine n_not h0 (y_get hy 0 21 6 rfl rfl ⟨hin, ?_⟩)
      have h1 := hy.wN 0 r 0 rfl rfl (by decide) (by omega)
      intro M2' e
      rw [show vp_nar .boolean (nI 0) = nI 0 from vp_b0] at e
      subst e
      refine ⟨rfl, ad, ar, _, E, qa, c, _, Z, rfl, h1, ⟨zX_cV (by decide) (by decide) hX, ?_, ?_, rK_un (by decide) (by decide) (by decide) (by decide) (rK_u3 (by decide) hK), rQ_un (by decide) (by decide) (by decide) (by decide) (by decide) (by decide) (by decide) (by decide) (rQ_u3 (by decide) hQ), rA_un (by decide) (by decide) (by decide) (by decide) (by decide) (by decide) (by decide) (by decide) (by decide) (by decide) (rA_u3 (by decide) (by decide) hA), rT_un (by decide) (by decide) (by decide) (by decide) (by decide) (by decide) (by decide) (rT_u3 (by omega) (by omega) (by omega) (by omega) hT), rF_un (by decide) (by decide) (by decide) (by decide) (rF_u3 (by decide) (by decide) (by decide) hF), rL_un (by decide) (by decide) (by decide) (rL_u3 (by omega) hL), rE_un (by decide) (by decide) hE⟩, jQ_un (by decide) (by decide) (by decide) (by decide) (by decide) (by decide) (by decide) (by decide) (by decide) (by decide) (by decide) (by decide) (by decide) (by decide) (by decide) (by decide) jq, jR_un (by decide) (by decide) (by decide) (by decide) (by decide) (by decide) (by decide) (by decide) (by decide) jr, jW_un (by decide) (by decide) (by decide) (by decide) (by decide) (by decide) (by decide) (by decide) (by decide) (by decide) jw, ?_⟩
      · simp [rS, un, u3] at hS ⊢; exact hS
      · intro r' hr'
        have := hO r' hr'
        by_cases e : r' = r
        · subst e; simp [un, u3]; exact this.2
        · simp [un, u3, e]; exact this
      · unfold jK at *
        simp [un] at jk jk2 ⊢
        refine ⟨⟨jk.1, by omega, by omega, jk.2.2.2⟩, fun r' hr' => ?_⟩
        have := jk2 r' hr'
        refine ⟨?_, ?_, this.2.2⟩
        · split
          · omega
          · exact this.1
        · intro h
          by_cases e : r' = r
          · simp [e] at h
          · simp [e] at h; exact this.2.1 h
def wrN (N : Nat → Nat → Nat) (r l : Nat) : Nat → Nat → Nat := un (un (un (un N 4 0 (N 4 0 + 1)) 0 r 1) 2 r l) 3 r (N 4 0 + 1)
def wrD (D : Nat → Nat → Nat → Int32) (N : Nat → Nat → Nat) (r l : Nat) (c : Int32) : Nat → Nat → Nat → Int32 := u3 (u3 (u3 (u3 (u3 D 5 0 2 (nI (N 4 0 + 1))) 4 r 0 1) 4 r 1 (nI (N 4 0 + 1))) 4 r 2 c) 4 r 3 (nI l)
theorem wr_rel {ad : Nat → Nat → Nat} {M : zM} {D : Nat → Nat → Nat → Int32} {E : Nat → Nat → Nat → Option Nat} {qa : Nat → Nat} {cc : Nat} {N : Nat → Nat → Nat} {Z : Nat → Nat → Int32} {r l : Nat} {c : Int32} {M' : zM} (h : cR ad M D E qa cc N Z) (hX : zX (cV N) ad M' (wrD D N r l c) E) : cR ad M' (wrD D N r l c) E qa cc (wrN N r l) (uz Z 1 r c) := by
  obtain ⟨-, hS, hO, hK, hQ, hA, hT, hF, hL, hE⟩ := h
  unfold wrD wrN
  refine ⟨zX_cV (by decide) (by decide) (zX_cV (by decide) (by decide) (zX_cV (by decide) (by decide) (zX_cV (by decide) (by decide) hX))), ?_, ?_, rK_uz (by decide) (rK_un (by decide) (by decide) (by decide) (by decide) (rK_un (by decide) (by decide) (by decide) (by decide) (rK_un (by decide) (by decide) (by decide) (by decide) (rK_un (by decide) (by decide) (by decide) (by decide) (rK_u3 (by decide) (rK_u3 (by decide) (rK_u3 (by decide) (rK_u3 (by decide) (rK_u3 (by decide) hK))))))))), rQ_uz (by decide) (by decide) (rQ_un (by decide) (by decide) (by decide) (by decide) (by decide) (by decide) (by decide) (by decide) (rQ_un (by decide) (by decide) (by decide) (by decide) (by decide) (by decide) (by decide) (by decide) (rQ_un (by decide) (by decide) (by decide) (by decide) (by decide) (by decide) (by decide) (by decide) (rQ_un (by decide) (by decide) (by decide) (by decide) (by decide) (by decide) (by decide) (by decide) (rQ_u3 (by decide) (rQ_u3 (by decide) (rQ_u3 (by decide) (rQ_u3 (by decide) (rQ_u3 (by decide) hQ))))))))), rA_uz (by decide) (rA_un (by decide) (by decide) (by decide) (by decide) (by decide) (by decide) (by decide) (by decide) (by decide) (by decide) (rA_un (by decide) (by decide) (by decide) (by decide) (by decide) (by decide) (by decide) (by decide) (by decide) (by decide) (rA_un (by decide) (by decide) (by decide) (by decide) (by decide) (by decide) (by decide) (by decide) (by decide) (by decide) (rA_un (by decide) (by decide) (by decide) (by decide) (by decide) (by decide) (by decide) (by decide) (by decide) (by decide) (rA_u3 (by decide) (by decide) (rA_u3 (by decide) (by decide) (rA_u3 (by decide) (by decide) (rA_u3 (by decide) (by decide) (rA_u3 (by decide) (by decide) hA))))))))), rT_uz (by decide) (rT_un (by decide) (by decide) (by decide) (by decide) (by decide) (by decide) (by decide) (rT_un (by decide) (by decide) (by decide) (by decide) (by decide) (by decide) (by decide) (rT_un (by decide) (by decide) (by decide) (by decide) (by decide) (by decide) (by decide) (rT_un (by decide) (by decide) (by decide) (by decide) (by decide) (by decide) (by decide) (rT_u3 (by omega) (by omega) (by omega) (by omega) (rT_u3 (by omega) (by omega) (by omega) (by omega) (rT_u3 (by omega) (by omega) (by omega) (by omega) (rT_u3 (by omega) (by omega) (by omega) (by omega) (rT_u3 (by omega) (by omega) (by omega) (by omega) hT))))))))), rF_un (by decide) (by decide) (by decide) (by decide) (rF_un (by decide) (by decide) (by decide) (by decide) (rF_un (by decide) (by decide) (by decide) (by decide) (rF_un (by decide) (by decide) (by decide) (by decide) (rF_u3 (by decide) (by decide) (by decide) (rF_u3 (by decide) (by decide) (by decide) (rF_u3 (by decide) (by decide) (by decide) (rF_u3 (by decide) (by decide) (by decide) (rF_u3 (by decide) (by decide) (by decide) hF)))))))), rL_un (by decide) (by decide) (by decide) (rL_un (by decide) (by decide) (by decide) (rL_un (by decide) (by decide) (by decide) (rL_un (by decide) (by decide) (by decide) (rL_u3 (by omega) (rL_u3 (by omega) (rL_u3 (by omega) (rL_u3 (by omega) (rL_u3 (by omega) hL)))))))), rE_un (by decide) (by decide) (rE_un (by decide) (by decide) (rE_un (by decide) (by decide) (rE_un (by decide) (by decide) hE)))⟩
  · simp [rS, un, u3] at hS ⊢
    exact ⟨hS.1, hS.2.1.2, hS.2.2⟩
  · intro r' hr'
    have := hO r' hr'
    by_cases e : r' = r
    · subst e; simp [un, u3, uz]; rfl
    · simp [un, u3, uz, e]; exact this
theorem wr_jI {k : Nat} {N : Nat → Nat → Nat} {r l : Nat} (hl : l ≤ 1000) (h : jI k N) : jI (k + 1) (wrN N r l) := by
  obtain ⟨jq, jr, jw, jk, jk2⟩ := h
  unfold wrN
  refine ⟨jQ_un (by decide) (by decide) (by decide) (by decide) (by decide) (by decide) (by decide) (by decide) (by decide) (by decide) (by decide) (by decide) (by decide) (by decide) (by decide) (by decide) (jQ_un (by decide) (by decide) (by decide) (by decide) (by decide) (by decide) (by decide) (by decide) (by decide) (by decide) (by decide) (by decide) (by decide) (by decide) (by decide) (by decide) (jQ_un (by decide) (by decide) (by decide) (by decide) (by decide) (by decide) (by decide) (by decide) (by decide) (by decide) (by decide) (by decide) (by decide) (by decide) (by decide) (by decide) (jQ_un (by decide) (by decide) (by decide) (by decide) (by decide) (by decide) (by decide) (by decide) (by decide) (by decide) (by decide) (by decide) (by decide) (by decide) (by decide) (by decide) jq))), jR_un (by decide) (by decide) (by decide) (by decide) (by decide) (by decide) (by decide) (by decide) (by decide) (jR_un (by decide) (by decide) (by decide) (by decide) (by decide) (by decide) (by decide) (by decide) (by decide) (jR_un (by decide) (by decide) (by decide) (by decide) (by decide) (by decide) (by decide) (by decide) (by decide) (jR_un (by decide) (by decide) (by decide) (by decide) (by decide) (by decide) (by decide) (by decide) (by decide) jr))), jW_un (by decide) (by decide) (by decide) (by decide) (by decide) (by decide) (by decide) (by decide) (by decide) (by decide) (jW_un (by decide) (by decide) (by decide) (by decide) (by decide) (by decide) (by decide) (by decide) (by decide) (by decide) (jW_un (by decide) (by decide) (by decide) (by decide) (by decide) (by decide) (by decide) (by decide) (by decide) (by decide) (jW_un (by decide) (by decide) (by decide) (by decide) (by decide) (by decide) (by decide) (by decide) (by decide) (by decide) jw))), ?_⟩
  unfold jK at *
  simp [un] at jk jk2 ⊢
  refine ⟨⟨jk.1, by omega, by omega, jk.2.2.2⟩, fun r' hr' => ?_⟩
  have := jk2 r' hr'
  by_cases e : r' = r
  · subst e; simp; exact ⟨hl, this.2.2.2⟩
  · simp [e]; exact this
theorem op_put (k ax am : Nat) (M1 M2 : zM) (hJ : zJ k ax am M1 M2) (y1 y2 y3 : Int32) (hk : k < 512) : w_X_put M1 ax y1 y2 y3 (fun v M1' => w_Y_put M2 am y1 y2 y3 (fun v' M2' => v = v' ∧ zJ (k + 1) ax am M1' M2')) := by
  have hJ0 := hJ
  obtain ⟨ad, ar, D, E, qa, c, N, Z, rfl, hy, hcR, hjI⟩ := hJ
  obtain ⟨hX, hS, hO, hK, hQ, hA, hT, hF, hL, hE⟩ := hcR
  obtain ⟨jq, jr, jw, jk, jk2⟩ := hjI
  unfold w_X_put
  refine ⟨hX.T hX.v8, c_ref hX hX.v8 hX.e80 ⟨hX.T hX.v5, ?_⟩⟩
  rcases n_ix y1 (n := 6) (by omega) with hx | ⟨r, hr, rfl⟩
  · refine c_resourceAt0 hX hx (n_yesO rfl ?_)
    unfold w_Y_put
    exact y_wout (n := 6) rfl hx (by omega) (n_yes rfl ⟨rfl, zJ_skip hJ0 hk⟩)
  · refine c_resourceAt hX hr (n_noO rfl ?_)
    unfold w_X_isLifetime
    rcases n_ix y3 (n := 1001) (by omega) with hx | ⟨l, hl, rfl⟩
    · have g0 : w_Y_put M2 am (nI r) y2 y3 (fun v' M2' => (-1 : Int32) = v' ∧ zJ (k + 1) (ad 8 0) am M1 M2') := by
        unfold w_Y_put
        exact y_win (n := 6) rfl hr (by omega) (n_not (by decide) (y_wout (n := 1001) rfl hx (by omega) (n_yes rfl ⟨rfl, zJ_skip hJ0 hk⟩)))
      refine n_ite (fun _ => n_yes rfl g0) (fun hc => n_yes (Int32.not_le.mp (fun q => hx ⟨Int32.not_lt.mp hc, (n_lt1 (by omega)).mp (by rw [l1000] at q; exact q)⟩)) (n_yes rfl g0))
    · refine n_not (by rw [l0, n_lt (by omega) (by omega)]; omega) (n_not (by rw [l1000, n_lt (by omega) (by omega)]; omega) (n_not (by decide) ⟨hX.T hX.v8, c_ref hX hX.v8 hX.e80 ⟨hX.T hX.v5, c_write hX hr hS.2.1.1 (fun M1 hX1 => ⟨hX1.T (hX1.v4 hr), ?_⟩)⟩⟩))
      unfold w_Y_put
      refine y_win (n := 6) rfl hr (by omega) (n_not (by decide) (y_win (n := 1001) rfl hl (by omega) (n_not (by decide) ⟨hy.T, y_write hy hr (by omega) (by omega) (fun M2 hy2 => ⟨?_, ?_⟩)⟩)))
      · rw [hX1.I (hX1.v4 hr)]; simp [u3]
      · exact ⟨ad, ar, _, E, qa, c, _, _, rfl, hy2, wr_rel ⟨hX, hS, hO, hK, hQ, hA, hT, hF, hL, hE⟩ hX1, wr_jI (by omega) ⟨jq, jr, jw, jk, jk2⟩⟩
