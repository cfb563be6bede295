theorem jR_lt {N : Nat → Nat → Nat} {k j v : Nat} (hj : j < N 6 0) (h20 : ¬ 20 = k) (h28 : ¬ 28 = k) (h26 : ¬ 26 = k) (h6 : ¬ 6 = k) (h16 : ¬ 16 = k) (h : jR N) : jR (un N k j v) := by
  obtain ⟨a, b, c, d⟩ := h
  have e : ∀ a b, N 6 0 ≤ b → un N k j v a b = N a b := fun a b hb => by rw [un_apply, if_neg (fun z => by omega)]
  have f : ∀ a b, ¬ a = k → un N k j v a b = N a b := fun a b hb => by rw [un_apply, if_neg (fun z => hb z.1)]
  refine ⟨fun x => ?_, fun q x => ?_, fun q => ?_, fun q => ?_⟩
  · rw [f 20 _ h20, f 28 _ h28]; exact a x
  · rw [f 20 _ h20, f 26 _ h26]; exact b q x
  · rw [f 20 _ h20, f 20 _ h20, f 20 _ h20, f 6 _ h6, f 16 _ h16]; exact c q
  · rw [f 6 _ h6]
    intro hq
    rw [e 9 q hq, e 12 q hq, e 13 q hq, e 15 q hq, e 16 q hq]; exact d q hq
def stN (N : Nat → Nat → Nat) (q v : Nat) : Nat → Nat → Nat := un (un N 9 q v) 15 q 0
def stD (D : Nat → Nat → Nat → Int32) (q v : Nat) : Nat → Nat → Nat → Int32 := u3 (u3 (u3 D 3 q 9 (nI v)) 3 q 10 0) 3 q 8 0
theorem st_rQ {D : Nat → Nat → Nat → Int32} {N : Nat → Nat → Nat} {Z : Nat → Nat → Int32} {q v : Nat} (hv : ¬ v = 0 ∧ ¬ v = 1 ∧ ¬ v = 2 ∧ ¬ v = 8) (h : rQ D N Z) : rQ (stD D q v) (stN N q v) Z := by
  intro p hp
  have hp : p < N 6 0 := by simpa [stN, un] using hp
  have := h p hp
  by_cases e : p = q
  · subst e
    simp [stD, stN, u3, un, hv]
    exact this.1
  · simp [stD, stN, u3, un, e]
    exact this
theorem st_rA0 {D : Nat → Nat → Nat → Int32} {N : Nat → Nat → Nat} {Z : Nat → Nat → Int32} {q v : Nat} (h0 : N 16 q = 0) (h : rA D N Z) : rA (stD D q v) (stN N q v) Z := by
  unfold stD stN
  refine rA_u3 (by decide) (by decide) (rA_u3 (by decide) (by decide) (rA_u3 (by decide) (by decide) ?_))
  intro p hp hs
  have hp : p < N 6 0 := by simpa [un] using hp
  have hs : 0 < N 16 p := by simpa [un] using hs
  have e : ¬ p = q := fun z => by rw [z] at hs; omega
  obtain ⟨a, b, c, d, f, g⟩ := h p hp hs
  rw [ost_un (by decide) (by decide) (by decide) (by decide) (by decide), ost_un (by decide) (by decide) (by decide) (by decide) (by decide), nd_un (by decide), nd_un (by decide)]
  simp [un, e]
  exact ⟨a, b, c, d, rG_un (by decide) (rG_un (by decide) f), g⟩
theorem st_rA1 {D : Nat → Nat → Nat → Int32} {N : Nat → Nat → Nat} {Z : Nat → Nat → Int32} {q v : Nat} (h : rA D N Z) : rA (u3 (u3 (stD D q v) 0 q 7 0) 0 q 8 0) (stN N q v) Z := by
  have h2 : rA (u3 (u3 D 0 q 7 0) 0 q 8 0) (stN N q v) Z := by
    unfold stN
    intro p hp hs
    have hp : p < N 6 0 := by simpa [un] using hp
    have hs : 0 < N 16 p := by simpa [un] using hs
    obtain ⟨a, b, c, d, f, g⟩ := h p hp hs
    rw [ost_un (by decide) (by decide) (by decide) (by decide) (by decide), ost_un (by decide) (by decide) (by decide) (by decide) (by decide), nd_un (by decide), nd_un (by decide)]
    have f' : rG (u3 (u3 D 0 q 7 0) 0 q 8 0) (un (un N 9 q v) 15 q 0) p := rG_un (by decide) (rG_un (by decide) (rG_u3 (by decide) (by omega) (rG_u3 (by decide) (by omega) f)))
    by_cases e : p = q
    · subst e
      simp [un, u3]
      exact ⟨a, d, f', g⟩
    · simp [un, u3, e]
      exact ⟨a, b, c, d, f', g⟩
  have e : u3 (u3 (stD D q v) 0 q 7 0) 0 q 8 0 = u3 (u3 (u3 (u3 (u3 D 0 q 7 0) 0 q 8 0) 3 q 9 (nI v)) 3 q 10 0) 3 q 8 0 := by
    funext a b c
    unfold stD
    simp only [u3]
    by_cases h3 : a = 3
    · subst h3; simp
    · by_cases h0 : a = 0
      · subst h0; simp
      · simp [h3, h0]
  rw [e]
  exact rA_u3 (by decide) (by decide) (rA_u3 (by decide) (by decide) (rA_u3 (by decide) (by decide) h2))
theorem st_rel {ad : Nat → Nat → Nat} {M M' : zM} {D D' : Nat → Nat → Nat → Int32} {E : Nat → Nat → Nat → Option Nat} {qa : Nat → Nat} {c q v : Nat} {N : Nat → Nat → Nat} {Z : Nat → Nat → Int32} (hv : ¬ v = 0 ∧ ¬ v = 1 ∧ ¬ v = 2 ∧ ¬ v = 8) (hD : (N 16 q = 0 ∧ D' = stD D q v) ∨ D' = u3 (u3 (stD D q v) 0 q 7 0) 0 q 8 0) (h : cR ad M D E qa c N Z) (hX : zX (cV N) ad M' D' E) : cR ad M' D' E qa c (stN N q v) Z := by
  obtain ⟨-, hS, hO, hK, hQ, hA, hT, hF, hL, hE⟩ := h
  have hX2 : zX (cV (stN N q v)) ad M' D' E := by unfold stN; exact zX_cV (by decide) (by decide) (zX_cV (by decide) (by decide) hX)
  have hE2 : rE ad E (stN N q v) := by unfold stN; exact rE_un (by decide) (by decide) (rE_un (by decide) (by decide) hE)
  rcases hD with ⟨h0, rfl⟩ | rfl
  · refine ⟨hX2, ?_, ?_, ?_, st_rQ hv hQ, st_rA0 h0 hA, ?_, ?_, ?_, hE2⟩
    · simp [rS, stN, stD, un, u3] at hS ⊢; exact hS
    · unfold stN stD; exact rO_un (by decide) (by decide) (by decide) (rO_un (by decide) (by decide) (by decide) (rO_u3 (by decide) (rO_u3 (by decide) (rO_u3 (by decide) hO))))
    · unfold stN stD; exact rK_un (by decide) (by decide) (by decide) (by decide) (rK_un (by decide) (by decide) (by decide) (by decide) (rK_u3 (by decide) (rK_u3 (by decide) (rK_u3 (by decide) hK))))
    · unfold stN stD; exact rT_un (by decide) (by decide) (by decide) (by decide) (by decide) (by decide) (by decide) (rT_un (by decide) (by decide) (by decide) (by decide) (by decide) (by decide) (by decide) (rT_u3 (by omega) (by omega) (by omega) (by omega) (rT_u3 (by omega) (by omega) (by omega) (by omega) (rT_u3 (by omega) (by omega) (by omega) (by omega) hT))))
    · unfold stN stD; exact rF_un (by decide) (by decide) (by decide) (by decide) (rF_un (by decide) (by decide) (by decide) (by decide) (rF_u3 (by decide) (by decide) (by decide) (rF_u3 (by decide) (by decide) (by decide) (rF_u3 (by decide) (by decide) (by decide) hF))))
    · unfold stN stD; exact rL_un (by decide) (by decide) (by decide) (rL_un (by decide) (by decide) (by decide) (rL_u3 (by omega) (rL_u3 (by omega) (rL_u3 (by omega) hL))))
  · refine ⟨hX2, ?_, ?_, ?_, rQ_u3 (by decide) (rQ_u3 (by decide) (st_rQ hv hQ)), st_rA1 hA, ?_, ?_, ?_, hE2⟩
    · simp [rS, stN, stD, un, u3] at hS ⊢; exact hS
    · unfold stN stD; exact rO_un (by decide) (by decide) (by decide) (rO_un (by decide) (by decide) (by decide) (rO_u3 (by decide) (rO_u3 (by decide) (rO_u3 (by decide) (rO_u3 (by decide) (rO_u3 (by decide) hO))))))
    · unfold stN stD; exact rK_un (by decide) (by decide) (by decide) (by decide) (rK_un (by decide) (by decide) (by decide) (by decide) (rK_u3 (by decide) (rK_u3 (by decide) (rK_u3 (by decide) (rK_u3 (by decide) (rK_u3 (by decide) hK))))))
    · unfold stN stD; exact rT_un (by decide) (by decide) (by decide) (by decide) (by decide) (by decide) (by decide) (rT_un (by decide) (by decide) (by decide) (by decide) (by decide) (by decide) (by decide) (rT_u3 (by omega) (by omega) (by omega) (by omega) (rT_u3 (by omega) (by omega) (by omega) (by omega) (rT_u3 (by omega) (by omega) (by omega) (by omega) (rT_u3 (by omega) (by omega) (by omega) (by omega) (rT_u3 (by omega) (by omega) (by omega) (by omega) hT))))))
    · unfold stN stD; exact rF_un (by decide) (by decide) (by decide) (by decide) (rF_un (by decide) (by decide) (by decide) (by decide) (rF_u3 (by decide) (by decide) (by decide) (rF_u3 (by decide) (by decide) (by decide) (rF_u3 (by decide) (by decide) (by decide) (rF_u3 (by decide) (by decide) (by decide) (rF_u3 (by decide) (by decide) (by decide) hF))))))
    · unfold stN stD; exact rL_un (by decide) (by decide) (by decide) (rL_un (by decide) (by decide) (by decide) (rL_u3 (by omega) (rL_u3 (by omega) (rL_u3 (by omega) (rL_u3 (by omega) (rL_u3 (by omega) hL))))))
theorem st_cnt {N : Nat → Nat → Nat} {q v : Nat} (hv : ¬ v = 0) (hq : q < N 6 0) (h0 : N 9 q = 0) : cnt (fun p => !decide (stN N q v 9 p = 0)) (N 6 0) = cnt (fun p => !decide (N 9 p = 0)) (N 6 0) + 1 := by
  refine cnt_up _ hq ?_ ?_ (fun i hi => ?_)
  · simp [h0]
  · simp [stN, un, hv]
  · simp [stN, un, hi]
theorem st_jI {N : Nat → Nat → Nat} {k q v : Nat} (hv : ¬ v = 0) (hv8 : v ≤ 8) (hq : q < N 6 0) (h0 : N 9 q = 0) (h : jI k N) : jI k (stN N q v) := by
  obtain ⟨jq, jr, jw, jk⟩ := h
  refine ⟨?_, ?_, ?_, ?_⟩
  · intro p hp
    have hp : p < N 6 0 := by simpa [stN, un] using hp
    obtain ⟨a1, a2, a3, a4, a5, a6, a7⟩ := jq p hp
    by_cases e : p = q
    · subst e
      simp [stN, un] at a7 ⊢
      exact ⟨a1, a2, hv8, a7.1, a7.2.1, a7.2.2.1, a7.2.2.2.1, fun z => absurd z hv, a7.2.2.2.2.2⟩
    · simp [stN, un, e] at a7 ⊢
      exact ⟨a1, a2, a3, a4, a5, a6, a7⟩
  · unfold stN
    exact jR_lt (by simpa [un] using hq) (by decide) (by decide) (by decide) (by decide) (by decide) (jR_lt hq (by decide) (by decide) (by decide) (by decide) (by decide) jr)
  · have hc := st_cnt (v := v) hv hq h0
    obtain ⟨w1, w2, w3, w4, w5, w6⟩ := jw
    have ha : aft (stN N q v) (N 34 0) = aft N (N 34 0) := by unfold stN; rw [aft_un (by decide) (by decide) (by decide), aft_un (by decide) (by decide) (by decide)]
    unfold jW
    have e : ∀ k j, ¬ k = 9 → ¬ k = 15 → stN N q v k j = N k j := fun k j h1 h2 => by simp [stN, un, h1, h2]
    simp only [e 34 _ (by decide) (by decide), e 32 _ (by decide) (by decide), e 33 _ (by decide) (by decide), e 6 _ (by decide) (by decide), e 35 _ (by decide) (by decide), e 29 _ (by decide) (by decide), e 28 _ (by decide) (by decide), e 16 _ (by decide) (by decide), ha]
    exact ⟨w1, w2, by omega, w4, w5, w6⟩
  · unfold jK at *
    simp [stN, un] at jk ⊢
    exact jk
theorem yo_cancel {am : Nat} {ar : Nat → Nat} {M : zM} {N : Nat → Nat → Nat} {Z : Nat → Nat → Int32} (hy : yR am ar M N Z) {post : Int32 → zM → Prop} {q : Nat} (hn : N 6 0 ≤ 60) (hq : q < N 6 0) (hw : N 34 0 < 572) (K0 : ¬ N 9 q = 0 → post 0 M) (K : N 9 q = 0 → ∀ M', yR am ar M' (tlN (stN N q 6) 1 q) Z → post 1 M') : w_Y_cancel M am (nI q) post := by
  have hin : vp_in (nI q) 60 := (n_in (by omega) (by omega)).mpr (by omega)
  unfold w_Y_cancel
  rw [hy.sc 6 rfl]
  refine ⟨hy.T, y_win (n := N 6 0) rfl hq (by omega) (n_not (by decide) ⟨hy.T, y_get hy 9 20 60 rfl rfl ⟨hin, ?_⟩⟩)⟩
  rw [n_cl (by omega), hy.rn 9 q rfl rfl (by decide), l0, n_eq (hy.b _ _) (by omega)]
  refine n_ite (fun h0 => y_get hy 9 20 60 rfl rfl ⟨hin, y_putN hy 9 q 6 rfl rfl (by decide) rfl (by omega) (fun M hy => ?_)⟩) (fun h0 => K0 h0)
  refine y_get hy 15 20 60 rfl rfl ⟨hin, y_putN hy 15 q 0 rfl rfl (by decide) rfl (by omega) (fun M hy => ?_)⟩
  exact y_tell (a := 1) hy (by omega) (by omega) (by simp [un]; omega) (fun M hy => K h0 M hy)
theorem op_cancel (k ax am : Nat) (M1 M2 : zM) (hJ : zJ k ax am M1 M2) (y1 : Int32) (hk : k < 512) : w_X_cancel M1 ax y1 (fun v M1' => w_Y_cancel M2 am y1 (fun v' M2' => v = v' ∧ zJ (k + 1) ax am M1' M2')) := by
  have hJ0 := hJ
  obtain ⟨ad, ar, D, E, qa, c, N, Z, rfl, hy, hcR, hjI⟩ := hJ
  have hcR' := hcR
  have hjI' := hjI
  obtain ⟨hX, hS, hO, hK, hQ, hA, hT, hF, hL, hE⟩ := hcR
  obtain ⟨jq, jr, ⟨w1, w2, w3, w4, w5, w6⟩, jk, jk2⟩ := hjI
  have n60 := jk.1
  have hc9 := cnt_le (fun p => !decide (N 9 p = 0)) (N 6 0)
  have hc16 := cnt_le (fun p => decide (0 < N 16 p)) (N 6 0)
  unfold w_X_cancel
  refine ⟨hX.T hX.v8, ?_⟩
  rcases n_ix y1 (n := N 6 0) (by omega) with hx | ⟨q, hq, rfl⟩
  · refine c_reqAt0 hX hS.1.1 hx (n_yesO rfl ?_)
    unfold w_Y_cancel
    rw [hy.sc 6 rfl]
    exact ⟨hy.T, y_wout (n := N 6 0) rfl hx (by omega) (n_yes rfl ⟨rfl, zJ_skip hJ0 hk⟩)⟩
  have hV : cV N 3 q := by simp [cV]; exact hq
  refine c_reqAt hX hS.1.1 (by omega) hq (hE q hq).1 (n_noO rfl ⟨hX.T hV, ?_⟩)
  rw [hX.I hV, (hQ q hq).2.2.1, l0, n_eq (hy.b _ _) (by omega)]
  refine n_ite (fun h0 => ?_) (fun h0 => yo_cancel hy n60 hq (by omega) (fun _ => ⟨rfl, zJ_skip hJ0 hk⟩) (fun z => absurd z h0))
  have hcn := st_cnt (v := 6) (by decide) hq h0
  have hc6 := cnt_le (fun p => !decide (stN N q 6 9 p = 0)) (N 6 0)
  have key : ∀ (M1 : zM) (D' : Nat → Nat → Nat → Int32), ((N 16 q = 0 ∧ D' = stD D q 6) ∨ D' = u3 (u3 (stD D q 6) 0 q 7 0) 0 q 8 0) → zX (cV N) ad M1 D' E → w_X_cancel_54 (fun v M1' => w_Y_cancel M2 am (nI q) (fun v' M2' => v = v' ∧ zJ (k + 1) (ad 8 0) am M1' M2')) M1 (ad 8 0) (nI q) (ad 3 q) := by
    intro M1 D' hD' hX1
    have hr := st_rel (v := 6) (by decide) hD' hcR' hX1
    have hj := st_jI (v := 6) (by decide) (by decide) hq h0 hjI'
    have e34 : stN N q 6 34 0 = N 34 0 := by simp [stN, un]
    have e35 : stN N q 6 35 0 = N 35 0 := by simp [stN, un]
    have e29 : stN N q 6 29 0 = N 29 0 := by simp [stN, un]
    have e6 : stN N q 6 6 0 = N 6 0 := by simp [stN, un]
    have e9 : stN N q 6 9 q = 6 := by simp [stN, un]
    have ea : aft (tlN (stN N q 6) 1 q) (stN N q 6 34 0 + 1) = aft N (N 34 0) := by
      rw [tl_aft1, if_neg (by decide), if_neg (by decide), e34]
      unfold stN; rw [aft_un (by decide) (by decide) (by decide), aft_un (by decide) (by decide) (by decide)]
    have ed : D' 3 q 0 = nI q := (hr.2.2.2.2.1 q (by rw [e6]; exact hq)).1.1
    have hw : D' 2 0 2 = nI (N 34 0) := by have := hr.2.2.2.2.2.2.2.1.1; rw [e34] at this; exact this
    unfold w_X_cancel_54
    rw [hX1.I hV, ed]
    refine ⟨hX1.T hX1.v8, hX1.T hV, c_ref hX1 hX1.v8 hX1.e82 ⟨hX1.T hX1.v2, c_append hX1 hw (by omega) (fun M1 hX2 => ?_)⟩⟩
    refine yo_cancel hy n60 hq (by omega) (fun z => absurd h0 z) (fun _ M2 hy2 => ⟨rfl, ad, ar, tlD D' (N 34 0) (nI 1) (nI q), E, qa, c, _, Z, rfl, hy2, ?_, ?_⟩)
    · have ht : D' 1 0 2 = nI (aft N (N 34 0)) := by
        have := hr.2.2.2.2.2.2.1.2.1
        rw [e34] at this
        rw [this]; unfold stN; rw [aft_un (by decide) (by decide) (by decide), aft_un (by decide) (by decide) (by decide)]
      have hX3 : zX (cV (stN N q 6)) ad M1 (tlD D' (stN N q 6 34 0) (nI 1) (nI q)) E := by
        rw [e34]; unfold stN; exact zX_cV (by decide) (by decide) (zX_cV (by decide) (by decide) hX2)
      have := tl_rel0 (by rw [e34, e35]; exact w2) ht ea.symm hr hX3
      rw [e34] at this
      exact this
    · obtain ⟨j1, j2, j3, j4⟩ := hj
      refine ⟨tl_jQ (fun _ _ => by rw [e9]; decide) j1, tl_jR _ _ j2, tl_jW (by omega) (fun _ => by rw [e6]; exact hq) ?_ ?_ j3, tl_jK _ _ j4⟩
      · rw [ea, e34, e6]; omega
      · rw [ea, e29]; exact w4
  refine c_settle hX hV (fun M1 hX1 => ⟨hX1.T hV, c_setI hX1 hV 8 rfl (fun M1 hX1 => ?_)⟩)
  rw [hX1.R hV, (hE q hq).2.1]
  rcases Nat.eq_zero_or_pos (N 16 q) with h16 | h16
  · rw [if_pos h16]
    exact n_yesO rfl (key M1 _ (Or.inl ⟨h16, rfl⟩) hX1)
  · rw [if_neg (by omega)]
    have hV0 : cV N 0 q := by simp [cV]; exact ⟨hq, h16⟩
    refine n_noO rfl ⟨ad 0 q, rfl, hX1.T hV0, c_setI hX1 hV0 7 rfl (fun M1 hX1 => ?_)⟩
    rw [hX1.R hV, (hE q hq).2.1, if_neg (by omega)]
    exact ⟨ad 0 q, rfl, hX1.T hV0, c_setI hX1 hV0 8 rfl (fun M1 hX1 => key M1 _ (Or.inr rfl) hX1)⟩
