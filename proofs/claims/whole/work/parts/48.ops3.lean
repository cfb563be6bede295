theorem c_fresh {V : Nat → Nat → Prop} {ad : Nat → Nat → Nat} {M : zM} {D : Nat → Nat → Nat → Int32} {E : Nat → Nat → Nat → Option Nat} (h : zX V ad M D E) {post : Int32 → zM → Prop} {r l s t : Nat} (hr : r < 6) (h0 : D 6 r 0 = 1) (hl : D 6 r 3 = nI l) (hs : D 6 r 4 = nI s) (hst : s ≤ t) (ht : t < 1073741824) (hl2 : l < 1073741824) (K : post (bI (decide (t - s < l))) M) : w_K_isFresh M (ad 6 r) (nI t) post := by
  unfold w_K_isFresh
  rw [h.I (h.v6 hr), h.I (h.v6 hr), h.I (h.v6 hr), h0, hl, hs, n_sub hst, n_le (by omega) (by omega)]
  refine ⟨h.T (h.v6 hr), n_not (by decide) (n_ite (fun hc => ?_) (fun hc => ?_))⟩
  · rw [show decide (t - s < l) = false by simp; omega] at K; exact K
  · rw [show decide (t - s < l) = true by simp; omega] at K; exact K
theorem op_stored (k ax am : Nat) (M1 M2 : zM) (hJ : zJ k ax am M1 M2) (y1 y2 : Int32) (hk : k < 512) : w_X_stored M1 ax y1 y2 (fun v M1' => w_Y_stored M2 am y1 y2 (fun v' M2' => v = v' ∧ zJ (k + 1) ax am M1' M2')) := by
  have hJ0 := hJ
  obtain ⟨ad, ar, D, E, qa, c, N, Z, rfl, hy, ⟨hX, hS, hO, hK, hQ, hA, hT, hF, hL, hE⟩, jq, jr, jw, jk, jk2⟩ := hJ
  unfold w_X_stored
  refine ⟨hX.T hX.v8, c_ref hX hX.v8 hX.e81 ⟨hX.T hX.v1, ?_⟩⟩
  rcases n_ix y1 (n := 6) (by omega) with hx | ⟨r, hr, rfl⟩
  · refine c_storedAt0 hX hx (n_yesO rfl ?_)
    unfold w_Y_stored
    exact y_wout (n := 6) rfl hx (by omega) (n_yes rfl ⟨rfl, zJ_skip hJ0 hk⟩)
  refine c_storedAt hX hr (n_noO rfl ⟨hX.T (hX.v6 hr), ?_⟩)
  have hin : vp_in (nI r) 6 := (n_in (by omega) (by omega)).mpr hr
  have hV := hX.v6 hr
  have hKr := hK r hr
  rcases Nat.eq_zero_or_pos (N 21 r) with h0 | h0
  · rw [hX.I hV, hKr.1 h0]
    refine n_yes rfl ?_
    unfold w_Y_stored
    refine y_win (n := 6) rfl hr (by omega) (n_not (by decide) ?_)
    rcases n_ix y2 (n := 4) (by omega) with hx | ⟨w, hw, rfl⟩
    · exact y_wout (n := 4) rfl hx (by omega) (n_yes rfl ⟨rfl, zJ_skip hJ0 hk⟩)
    · refine y_win (n := 4) rfl hw (by omega) (n_not (by decide) ⟨hy.T, y_get hy 21 20 6 rfl rfl ⟨hin, ?_⟩⟩)
      rw [n_cl (by omega), hy.rr 21 r rfl (by omega), h0]
      exact n_not (by decide) ⟨rfl, zJ_skip hJ0 hk⟩
  · obtain ⟨e0, e1, e2, e3', e4, e5⟩ := hKr.2 h0
    rw [hX.I hV, e0]
    refine n_not (by decide) ?_
    rcases n_ix y2 (n := 4) (by omega) with hx | ⟨w, hw, rfl⟩
    · have ne : ∀ j : Nat, j < 4 → ¬ y2 = nI j := fun j hj q => hx (by subst q; exact ⟨by rw [l0, n_le (by omega) (by omega)]; omega, by rw [n_lt (by omega) (by omega)]; exact hj⟩)
      refine n_not (ne 0 (by omega)) (n_not (ne 1 (by omega)) (n_not (ne 2 (by omega)) (n_not (ne 3 (by omega)) ?_)))
      unfold w_Y_stored
      exact y_win (n := 6) rfl hr (by omega) (n_not (by decide) (y_wout (n := 4) rfl hx (by omega) (n_yes rfl ⟨rfl, zJ_skip hJ0 hk⟩)))
    · have hb := (jk2 r hr).2.2.2.2 h0
      have key : ∀ v : Int32, (v = (if w = 0 then nI (N 22 r) else if w = 1 then Z 23 r else if w = 2 then nI (N 21 r - 1) else nI (N 24 r - (N 5 0 - N 25 r)))) → w_Y_stored M2 am (nI r) (nI w) (fun v' M2' => v = v' ∧ zJ (k + 1) (ad 8 0) am M1 M2') := by
        intro v hv
        unfold w_Y_stored
        refine y_win (n := 6) rfl hr (by omega) (n_not (by decide) (y_win (n := 4) rfl hw (by omega) (n_not (by decide) ⟨hy.T, y_get hy 21 20 6 rfl rfl ⟨hin, ?_⟩⟩)))
        rw [n_cl (by omega), hy.rr 21 r rfl (by omega), n_sub (by omega)]
        refine n_yes (by rw [l0, n_le (by omega) (by have := hy.b 21 r; omega)]; omega) (y_get hy 24 20 6 rfl rfl ⟨hin, y_get hy 25 20 6 rfl rfl ⟨hin, ?_⟩⟩)
        rw [hy.rn 24 r rfl rfl (by decide), hy.rn 25 r rfl rfl (by decide), hy.sc 5 rfl, n_sub (by omega), l0, l1, l2, n_eq (by omega) (by omega), n_eq (by omega) (by omega), n_eq (by omega) (by omega)]
        refine n_ite (fun h => y_get hy 22 20 6 rfl rfl ⟨hin, ?_, zJ_skip hJ0 hk⟩) (fun hn0 => n_ite (fun h => y_get hy 23 20 6 rfl rfl ⟨hin, ?_, zJ_skip hJ0 hk⟩) (fun hn1 => n_ite (fun h => y_get hy 21 20 6 rfl rfl ⟨hin, ?_, zJ_skip hJ0 hk⟩) (fun hn2 => ?_)))
        · rw [hy.rn 22 r rfl rfl (by decide), hv, if_pos h]
        · rw [hy.rz 23 r rfl rfl, hv, if_neg hn0, if_pos h]
        · rw [hy.rr 21 r rfl (by omega), n_sub (by omega), hv, if_neg hn0, if_neg hn1, if_pos h]
        · rw [if_neg hn0, if_neg hn1, if_neg hn2] at hv
          rcases Nat.lt_or_ge (N 5 0 - N 25 r) (N 24 r) with hlt | hge
          · rw [n_sub (by omega), n_le (by omega) (by omega)]
            exact n_not (by omega) ⟨hv, zJ_skip hJ0 hk⟩
          · refine n_yes ?_ ⟨?_, zJ_skip hJ0 hk⟩
            · rw [Int32.le_iff_toInt_le, pk_sub_toInt (by omega) (by omega), nI_toInt (by omega)]; omega
            · rw [hv, show N 24 r - (N 5 0 - N 25 r) = 0 by omega]
      rw [hX.I hV, hX.I hV, hX.I hV, e1, e2, e5, l0, l1, l2, l3, n_eq (by omega) (by omega), n_eq (by omega) (by omega), n_eq (by omega) (by omega), n_eq (by omega) (by omega)]
      refine n_ite (fun h => key _ (by rw [if_pos h])) (fun hn0 => n_ite (fun h => key _ (by rw [if_neg hn0, if_pos h])) (fun hn1 => n_ite (fun h => key _ (by rw [if_neg hn0, if_neg hn1, if_pos h])) (fun hn2 => n_yes (by omega) ⟨hX.T hX.v8, ?_⟩)))
      rw [hX.I hX.v8, hS.1.2]
      unfold w_K_freshFor
      refine ⟨hX.T hV, c_fresh hX hr e0 e3' e4 (by omega) (by omega) (by omega) ?_⟩
      rw [bI_z]
      refine n_ite (fun hf => key _ ?_) (fun hf => ⟨hX.T hV, key _ ?_⟩)
      · simp at hf
        rw [if_neg hn0, if_neg hn1, if_neg hn2, show N 24 r - (N 5 0 - N 25 r) = 0 by omega]
        rfl
      · simp at hf
        rw [hX.I hV, hX.I hV, e3', e4, n_sub (by omega), n_sub (by omega), if_neg hn0, if_neg hn1, if_neg hn2]
