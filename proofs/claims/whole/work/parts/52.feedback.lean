theorem ost35 {N : Nat → Nat → Nat} {h : Nat} (hh : N 35 0 = h) (q : Nat) : ost (un N 35 0 (h + 1)) q = (ost N q && (decide (N 32 h = 2) || !decide (N 33 h = q))) := by
  unfold ost
  rw [nd_un (by decide), opn_un (by decide) (by decide)]
  have e1 : un N 35 0 (h + 1) 16 q = N 16 q := by simp [un]
  have e2 : un N 35 0 (h + 1) 35 0 = h + 1 := by simp [un]
  rw [e1, e2, hh]
  simp only [opn]
  cases decide (0 < N 16 q) <;> cases decide (0 < nd N q) <;> simp
theorem rA_fb0 {D : Nat → Nat → Nat → Int32} {N : Nat → Nat → Nat} {Z : Nat → Nat → Int32} {v : Nat} (ho : ∀ q, q < N 6 0 → 0 < N 16 q → ost (un N 35 0 v) q = ost N q) (h : rA D N Z) : rA D (un N 35 0 v) Z := by
  intro q hq hs
  have hq : q < N 6 0 := by simpa [un] using hq
  have hs : 0 < N 16 q := by simpa [un] using hs
  obtain ⟨a, b, c, d, f, g⟩ := h q hq hs
  rw [ho q hq hs, nd_un (by decide)]
  simp [un]
  exact ⟨a, b, c, d, rG_un (by decide) f, g⟩
theorem rA_fb1 {D : Nat → Nat → Nat → Int32} {N : Nat → Nat → Nat} {Z : Nat → Nat → Int32} {v p : Nat} (hp : ost (un N 35 0 v) p = false) (ho : ∀ q, ¬ q = p → ost (un N 35 0 v) q = ost N q) (h : rA D N Z) : rA (u3 D 0 p 9 0) (un N 35 0 v) Z := by
  intro q hq hs
  have hq : q < N 6 0 := by simpa [un] using hq
  have hs : 0 < N 16 q := by simpa [un] using hs
  obtain ⟨a, b, c, d, f, g⟩ := h q hq hs
  have f' : rG (u3 D 0 p 9 0) (un N 35 0 v) q := rG_u3 (by decide) (by omega) (rG_un (by decide) f)
  rw [nd_un (by decide)]
  by_cases e : q = p
  · subst e
    rw [hp]
    simp [un, u3]
    exact ⟨a, b, c, rfl, f', g⟩
  · rw [ho q e]
    simp [un, u3, e]
    exact ⟨a, b, c, d, f', g⟩
theorem c_nextKind {V : Nat → Nat → Prop} {ad : Nat → Nat → Nat} {M : zM} {D : Nat → Nat → Nat → Int32} {E : Nat → Nat → Nat → Option Nat} (h : zX V ad M D E) {post : Int32 → zM → Prop} {w i : Nat} (hw : D 2 0 2 = nI w) (hi : D 2 0 3 = nI i) (hiw : i < w) (hw2 : w ≤ 240) (K : post (D 12 0 i) M) : w_F_nextKind M (ad 2 0) post := by
  unfold w_F_nextKind
  rw [h.I h.v2, h.I h.v2, hw, hi]
  refine ⟨h.T h.v2, n_not (by rw [n_le (by omega) (by omega)]; omega) (c_arr h h.v2 h.v12 h.e20 rfl (n_not (by rw [n_le (by omega) (by omega)]; omega) (c_arr h h.v2 h.v12 h.e20 rfl ⟨(n_in (by omega) (by omega)).mpr (by omega), ?_⟩)))⟩
  rw [n_cl (by omega), h.I h.v12]
  exact K
theorem c_nextKind0 {V : Nat → Nat → Prop} {ad : Nat → Nat → Nat} {M : zM} {D : Nat → Nat → Nat → Int32} {E : Nat → Nat → Nat → Option Nat} (h : zX V ad M D E) {post : Int32 → zM → Prop} {w i : Nat} (hw : D 2 0 2 = nI w) (hi : D 2 0 3 = nI i) (hiw : w ≤ i) (hw2 : i ≤ 240) (K : post (-1) M) : w_F_nextKind M (ad 2 0) post := by
  unfold w_F_nextKind
  rw [h.I h.v2, h.I h.v2, hw, hi]
  exact ⟨h.T h.v2, n_yes (by rw [n_le (by omega) (by omega)]; omega) K⟩
theorem c_nextNumber {V : Nat → Nat → Prop} {ad : Nat → Nat → Nat} {M : zM} {D : Nat → Nat → Nat → Int32} {E : Nat → Nat → Nat → Option Nat} (h : zX V ad M D E) {post : Int32 → zM → Prop} {w i : Nat} (hw : D 2 0 2 = nI w) (hi : D 2 0 3 = nI i) (hiw : i < w) (hw2 : w ≤ 240) (K : post (D 13 0 i) M) : w_F_nextNumber M (ad 2 0) post := by
  unfold w_F_nextNumber
  rw [h.I h.v2, h.I h.v2, hw, hi]
  refine ⟨h.T h.v2, n_not (by rw [n_le (by omega) (by omega)]; omega) (c_arr h h.v2 h.v13 h.e21 rfl (n_not (by rw [n_le (by omega) (by omega)]; omega) (c_arr h h.v2 h.v13 h.e21 rfl ⟨(n_in (by omega) (by omega)).mpr (by omega), ?_⟩)))⟩
  rw [n_cl (by omega), h.I h.v13]
  exact K
theorem c_moveOn {V : Nat → Nat → Prop} {ad : Nat → Nat → Nat} {M : zM} {D : Nat → Nat → Nat → Int32} {E : Nat → Nat → Nat → Option Nat} (h : zX V ad M D E) {post : zM → Prop} {w i : Nat} (hw : D 2 0 2 = nI w) (hi : D 2 0 3 = nI i) (hiw : i < w) (hw2 : w ≤ 240) (K : ∀ M', zX V ad M' (u3 D 2 0 3 (nI (i + 1))) E → post M') : w_F_moveOn M (ad 2 0) post := by
  unfold w_F_moveOn
  rw [h.I h.v2, h.I h.v2, hw, hi, l1, n_add]
  exact ⟨h.T h.v2, n_not (by rw [n_le (by omega) (by omega)]; omega) (c_setI h h.v2 3 rfl (fun M h => K M h))⟩
theorem yo_feedback {am : Nat} {ar : Nat → Nat} {M : zM} {N : Nat → Nat → Nat} {Z : Nat → Nat → Int32} (hy : yR am ar M N Z) {post : Int32 → zM → Prop} (hw : N 34 0 ≤ 572) (hlt : N 35 0 < N 34 0) (K : ∀ M', yR am ar M' (un N 35 0 (N 35 0 + 1)) Z → post (nI (N 32 (N 35 0))) M') : w_Y_feedback M am post := by
  unfold w_Y_feedback
  rw [hy.sc 35 rfl, hy.sc 34 rfl, n_eq (by omega) (by omega), l1, n_add]
  refine ⟨hy.T, n_not (by omega) (y_setS hy 35 (N 35 0 + 1) rfl rfl (by omega) (fun M hy => ?_))⟩
  rw [show zI M am 35 = nI (N 35 0 + 1) from (hy.sc 35 rfl).trans (by simp [un]), n_sub (by omega), show N 35 0 + 1 - 1 = N 35 0 by omega]
  refine y_get hy 32 20 572 rfl rfl ⟨(n_in (by omega) (by omega)).mpr (by omega), ?_⟩
  rw [n_cl (by omega), show zI M (ar 32) (N 35 0) = nI (N 32 (N 35 0)) from (hy.rn 32 _ rfl rfl (by decide)).trans (by simp [un])]
  exact K M hy
theorem fb_rel {ad : Nat → Nat → Nat} {M M' : zM} {D D' : Nat → Nat → Nat → Int32} {E : Nat → Nat → Nat → Option Nat} {qa : Nat → Nat} {c h p : Nat} {N : Nat → Nat → Nat} {Z : Nat → Nat → Int32} (hh : N 35 0 = h) (h0 : cR ad M D E qa c N Z)
    (hD : ((∀ q, q < N 6 0 → 0 < N 16 q → ost (un N 35 0 (h + 1)) q = ost N q) ∧ D' = u3 (u3 D 2 0 3 (nI (h + 1))) 7 0 5 (nI (aft N (h + 1)))) ∨ ((ost (un N 35 0 (h + 1)) p = false ∧ ∀ q, ¬ q = p → ost (un N 35 0 (h + 1)) q = ost N q) ∧ D' = u3 (u3 (u3 D 2 0 3 (nI (h + 1))) 0 p 9 0) 7 0 5 (nI (aft N (h + 1)))))
    (hX : zX (cV N) ad M' D' E) : cR ad M' D' E qa c (un N 35 0 (h + 1)) Z := by
  obtain ⟨-, hS, hO, hK, hQ, hA, hT, hF, hL, hE⟩ := h0
  have rTn : ∀ D'', D'' 7 0 5 = nI (aft N (h + 1)) → D'' 1 0 2 = D 1 0 2 → (∀ j, D'' 14 0 j = D 14 0 j ∧ D'' 15 0 j = D 15 0 j) → rT D'' (un N 35 0 (h + 1)) Z := by
    intro D'' e1 e2 e3
    unfold rT
    rw [aft_un (by decide) (by decide) (by decide), aft_un (by decide) (by decide) (by decide)]
    simp [un]
    refine ⟨e1, by rw [e2]; exact hT.2.1, fun e he1 he2 => ?_⟩
    rw [(e3 _).1, (e3 _).2]
    exact hT.2.2 e he1 he2
  have hF2 : rF (u3 D 2 0 3 (nI (h + 1))) (un N 35 0 (h + 1)) := by
    simp [rF, un, u3] at hF ⊢
    exact ⟨hF.1, hF.2.2⟩
  rcases hD with ⟨ho, rfl⟩ | ⟨⟨hp, ho⟩, rfl⟩
  · refine ⟨zX_cV (by decide) (by decide) hX, ?_, rO_un (by decide) (by decide) (by decide) (rO_u3 (by decide) (rO_u3 (by decide) hO)), rK_un (by decide) (by decide) (by decide) (by decide) (rK_u3 (by decide) (rK_u3 (by decide) hK)), rQ_un (by decide) (by decide) (by decide) (by decide) (by decide) (by decide) (by decide) (by decide) (rQ_u3 (by decide) (rQ_u3 (by decide) hQ)), rA_u3 (by decide) (by decide) (rA_u3 (by decide) (by decide) (rA_fb0 ho hA)), rTn _ (by simp [u3]) (by simp [u3]) (by simp [u3]), rF_u3 (by decide) (by decide) (by decide) hF2, rL_un (by decide) (by decide) (by decide) (rL_u3 (by omega) (rL_u3 (by omega) hL)), rE_un (by decide) (by decide) hE⟩
    simp [rS, un, u3] at hS ⊢; exact hS
  · refine ⟨zX_cV (by decide) (by decide) hX, ?_, rO_un (by decide) (by decide) (by decide) (rO_u3 (by decide) (rO_u3 (by decide) (rO_u3 (by decide) hO))), rK_un (by decide) (by decide) (by decide) (by decide) (rK_u3 (by decide) (rK_u3 (by decide) (rK_u3 (by decide) hK))), rQ_un (by decide) (by decide) (by decide) (by decide) (by decide) (by decide) (by decide) (by decide) (rQ_u3 (by decide) (rQ_u3 (by decide) (rQ_u3 (by decide) hQ))), ?_, rTn _ (by simp [u3]) (by simp [u3]) (by simp [u3]), rF_u3 (by decide) (by decide) (by decide) (rF_u3 (by decide) (by decide) (by decide) hF2), rL_un (by decide) (by decide) (by decide) (rL_u3 (by omega) (rL_u3 (by omega) (rL_u3 (by omega) hL))), rE_un (by decide) (by decide) hE⟩
    · simp [rS, un, u3] at hS ⊢; exact hS
    · exact rA_u3 (by decide) (by decide) (rA_fb1 hp ho (rA_u3 (by decide) (by decide) hA))
theorem u3_self {D : Nat → Nat → Nat → Int32} {k i j : Nat} {v : Int32} (h : D k i j = v) : u3 D k i j v = D := by
  funext a b c
  simp only [u3]
  split
  · next e => obtain ⟨rfl, rfl, rfl⟩ := e; exact h.symm
  · rfl
theorem op_feedback (k ax am : Nat) (M1 M2 : zM) (hJ : zJ k ax am M1 M2) (hk : k < 512) : w_X_feedback M1 ax (fun v M1' => w_Y_feedback M2 am (fun v' M2' => v = v' ∧ zJ (k + 1) ax am M1' M2')) := by
  have hJ0 := hJ
  obtain ⟨ad, ar, D, E, qa, c, N, Z, rfl, hy, hcR, hjI⟩ := hJ
  have hcR' := hcR
  obtain ⟨hX, hS, hO, hK, hQ, hA, hT, hF, hL, hE⟩ := hcR
  obtain ⟨jq, jr, ⟨w1, w2, w3, w4, w5, w6⟩, jk, jk2⟩ := hjI
  have n60 := jk.1
  have hc9 := cnt_le (fun p => !decide (N 9 p = 0)) (N 6 0)
  have hc16 := cnt_le (fun p => decide (0 < N 16 p)) (N 6 0)
  unfold w_X_feedback
  refine ⟨hX.T hX.v8, c_ref hX hX.v8 hX.e82 ⟨hX.T hX.v2, ?_⟩⟩
  rcases Nat.lt_or_ge (N 35 0) (N 34 0) with hlt | hge
  · have ek : D 12 0 (N 35 0) = nI (N 32 (N 35 0)) := (hF.2.2 _ hlt).1
    have en : D 13 0 (N 35 0) = nI (N 33 (N 35 0)) := (hF.2.2 _ hlt).2
    have hkd := (w1 _ hlt).1
    refine c_nextKind hX hF.1 hF.2.1 hlt (by omega) ?_
    rw [ek]
    refine n_not (fun z => ?_) ⟨hX.T hX.v8, c_ref hX hX.v8 hX.e82 ⟨hX.T hX.v2, c_nextNumber hX hF.1 hF.2.1 hlt (by omega) ⟨hX.T hX.v8, c_ref hX hX.v8 hX.e82 ⟨hX.T hX.v2, c_moveOn hX hF.1 hF.2.1 hlt (by omega) (fun M1 hX1 => ?_)⟩⟩⟩⟩
    · have := congrArg Int32.toInt z
      rw [nI_toInt (hy.b _ _), show (-1 : Int32).toInt = -1 from rfl] at this
      omega
    · rw [en, l2, l0, n_eq (hy.b _ _) (by omega), n_eq (hy.b _ _) (by omega)]
      have aS : aft N (N 35 0 + 1) = if N 32 (N 35 0) = 2 then aft N (N 35 0) + N 33 (N 35 0) else if N 32 (N 35 0) = 0 then max (aft N (N 35 0)) (nd N (N 33 (N 35 0))) else aft N (N 35 0) := rfl
      have aL := aft_le N (j := N 35 0) (k := N 34 0) w2
      have jI2 : jI (k + 1) (un N 35 0 (N 35 0 + 1)) := by
        refine ⟨jQ_un (by decide) (by decide) (by decide) (by decide) (by decide) (by decide) (by decide) (by decide) (by decide) (by decide) (by decide) (by decide) (by decide) (by decide) (by decide) (by decide) jq, jR_un (by decide) (by decide) (by decide) (by decide) (by decide) (by decide) (by decide) (by decide) (by decide) jr, ?_, ?_⟩
        · unfold jW
          rw [aft_un (by decide) (by decide) (by decide)]
          simp [un]
          exact ⟨w1, by omega, w3, w4, w5, w6⟩
        · unfold jK at *
          simp [un] at jk jk2 ⊢
          exact ⟨⟨jk.1, by omega, by omega, jk.2.2.2⟩, jk2⟩
      have fin : ∀ (M1 : zM) (D' : Nat → Nat → Nat → Int32), cR ad M1 D' E qa c (un N 35 0 (N 35 0 + 1)) Z → w_Y_feedback M2 am (fun v' M2' => nI (N 32 (N 35 0)) = v' ∧ zJ (k + 1) (ad 8 0) am M1 M2') := fun M1 D' hc2 => yo_feedback hy (by omega) hlt (fun M2 hy2 => ⟨rfl, ad, ar, D', E, qa, c, _, Z, rfl, hy2, hc2, jI2⟩)
      refine n_ite (fun k2 => ?_) (fun k2 => ?_)
      · refine ⟨hX1.T hX1.v8, c_ref hX1 hX1.v8 hX1.e80 ⟨hX1.T hX1.v5, c_ref hX1 hX1.v5 hX1.e51 ⟨hX1.T hX1.v7, ?_⟩⟩⟩
        rw [show zI M1 (ad 7 0) 5 = nI (aft N (N 35 0)) from (hX1.I hX1.v7 5).trans hT.1, n_add]
        refine c_setI hX1 hX1.v7 5 (v := nI (aft N (N 35 0 + 1))) (by rw [aS, if_pos k2]) (fun M1 hX2 => fin M1 _ (fb_rel (p := 0) rfl hcR' (Or.inl ⟨fun q _ _ => ?_, rfl⟩) hX2))
        rw [ost35 rfl, k2]; simp
      · have hp := (w1 _ hlt).2 k2
        have hop : ∀ q, ¬ q = N 33 (N 35 0) → ost (un N 35 0 (N 35 0 + 1)) q = ost N q := fun q hq => by
          rw [ost35 rfl]
          have : ¬ N 33 (N 35 0) = q := fun z => hq z.symm
          simp [this]
        have hopp : ost (un N 35 0 (N 35 0 + 1)) (N 33 (N 35 0)) = false := by rw [ost35 rfl]; simp [k2]
        have hV : cV N 3 (N 33 (N 35 0)) := by simp [cV]; exact hp
        have en8 : (u3 D 2 0 3 (nI (N 35 0 + 1))) 8 0 4 = nI (N 6 0) := hS.1.1
        have endO : ∀ b : Int32, ((b = 0 ∧ ¬ N 32 (N 35 0) = 0) ∨ (¬ b = 0 ∧ N 32 (N 35 0) = 0)) → w_X_endOutstanding M1 (ad 8 0) (nI (N 33 (N 35 0))) b (fun M24 => w_Y_feedback M2 am (fun v' M2' => nI (N 32 (N 35 0)) = v' ∧ zJ (k + 1) (ad 8 0) am M24 M2')) := by
          intro b hb
          unfold w_X_endOutstanding
          refine ⟨hX1.T hX1.v8, c_reqAt hX1 en8 (by omega) hp (hE _ hp).1 (n_noO rfl ⟨hX1.T hV, ?_⟩)⟩
          rw [hX1.R hV, (hE _ hp).2.1]
          rcases Nat.eq_zero_or_pos (N 16 (N 33 (N 35 0))) with h16 | h16
          · rw [if_pos h16]
            refine n_yesO rfl (fin M1 _ (fb_rel (p := 0) (D' := u3 D 2 0 3 (nI (N 35 0 + 1))) rfl hcR' (Or.inl ⟨fun q _ hs => hop q (fun z => by rw [z] at hs; omega), ?_⟩) hX1))
            refine (u3_self ?_).symm
            have hz := jr.2.2.1 _ (Or.inr h16)
            have nd0 : nd N (N 33 (N 35 0)) = 0 := by unfold nd; omega
            have : aft N (N 35 0 + 1) = aft N (N 35 0) := by
              rw [aS, if_neg k2, nd0]
              split <;> omega
            rw [this]
            exact hT.1
          · rw [if_neg (by omega)]
            have hV0 : cV N 0 (N 33 (N 35 0)) := by simp [cV]; exact ⟨hp, h16⟩
            refine n_noO rfl ⟨_, rfl, hX1.T hV0, c_setI hX1 hV0 9 rfl (fun M1 hX2 => ?_)⟩
            rcases hb with ⟨b0, k0⟩ | ⟨b0, k0⟩
            · refine n_yes b0 (fin M1 _ (fb_rel (p := N 33 (N 35 0)) (D' := u3 (u3 D 2 0 3 (nI (N 35 0 + 1))) 0 (N 33 (N 35 0)) 9 0) rfl hcR' (Or.inr ⟨⟨hopp, hop⟩, ?_⟩) hX2))
              refine (u3_self ?_).symm
              rw [show aft N (N 35 0 + 1) = aft N (N 35 0) by rw [aS, if_neg k2, if_neg k0]]
              exact hT.1
            · refine n_not b0 ⟨hX2.T hX2.v8, c_ref hX2 hX2.v8 hX2.e80 ⟨hX2.T hX2.v5, ?_⟩⟩
              rw [hX2.R hV, (hE _ hp).2.1, if_neg (by omega)]
              refine ⟨_, rfl, hX2.T hV0, c_ref hX2 hX2.v5 hX2.e51 ⟨hX2.T hX2.v7, ?_⟩⟩
              unfold w_T_learn
              rw [show zI M1 (ad 7 0) 5 = nI (aft N (N 35 0)) from (hX2.I hX2.v7 5).trans hT.1, show zI M1 (ad 0 (N 33 (N 35 0))) 3 = nI (nd N (N 33 (N 35 0))) from (hX2.I hV0 3).trans (by simp [u3]; exact (hA _ hp h16).1.2), n_max (by omega) (by have := nd_b hy (N 33 (N 35 0)); omega)]
              refine ⟨hX2.T hX2.v7, c_setI hX2 hX2.v7 5 (v := nI (aft N (N 35 0 + 1))) (by rw [aS, if_neg k2, if_pos k0]) (fun M1 hX3 => fin M1 _ (fb_rel (p := N 33 (N 35 0)) rfl hcR' (Or.inr ⟨⟨hopp, hop⟩, rfl⟩) hX3))⟩
        exact n_ite (fun k0 => ⟨hX1.T hX1.v8, endO 1 (Or.inr ⟨by decide, k0⟩)⟩) (fun k0 => ⟨hX1.T hX1.v8, endO 0 (Or.inl ⟨rfl, k0⟩)⟩)
  · refine c_nextKind0 hX hF.1 hF.2.1 hge (by omega) (n_yes rfl ?_)
    unfold w_Y_feedback
    rw [hy.sc 35 rfl, hy.sc 34 rfl, n_eq (by omega) (by omega)]
    exact ⟨hy.T, n_yes (by omega) ⟨rfl, zJ_skip hJ0 hk⟩⟩
