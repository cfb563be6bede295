/-! a word on the feedback -/
def tlN (N : Nat → Nat → Nat) (a x : Nat) : Nat → Nat → Nat := un (un (un N 32 (N 34 0) a) 33 (N 34 0) x) 34 0 (N 34 0 + 1)
def tlD (D : Nat → Nat → Nat → Int32) (w : Nat) (a x : Int32) : Nat → Nat → Nat → Int32 := u3 (u3 (u3 D 12 0 w a) 13 0 w x) 2 0 2 (nI (w + 1))
theorem tl_nd (N : Nat → Nat → Nat) (a x q : Nat) : nd (tlN N a x) q = nd N q := by unfold tlN; rw [nd_un (by decide), nd_un (by decide), nd_un (by decide)]
theorem tl_32 (N : Nat → Nat → Nat) (a x i : Nat) : tlN N a x 32 i = if i = N 34 0 then a else N 32 i := by simp [tlN, un]
theorem tl_33 (N : Nat → Nat → Nat) (a x i : Nat) : tlN N a x 33 i = if i = N 34 0 then x else N 33 i := by simp [tlN, un]
theorem tl_o {N : Nat → Nat → Nat} {a x k : Nat} (h1 : ¬ k = 32) (h2 : ¬ k = 33) (h3 : ¬ k = 34) (j : Nat) : tlN N a x k j = N k j := by simp [tlN, un, h1, h2, h3]
theorem tl_34 (N : Nat → Nat → Nat) (a x : Nat) : tlN N a x 34 0 = N 34 0 + 1 := by simp [tlN, un]
theorem tl_aft (N : Nat → Nat → Nat) (a x : Nat) : ∀ j, j ≤ N 34 0 → aft (tlN N a x) j = aft N j
  | 0, _ => rfl
  | j + 1, h => by
    simp only [aft, tl_aft N a x j (by omega), tl_nd, tl_32, tl_33, show ¬ j = N 34 0 by omega, if_false]
theorem tl_opn (N : Nat → Nat → Nat) (a x q : Nat) : ∀ j, j ≤ N 34 0 → opn (tlN N a x) q j = opn N q j
  | 0, _ => rfl
  | j + 1, h => by
    simp only [opn, tl_opn N a x q j (by omega), tl_32, tl_33, show ¬ j = N 34 0 by omega, if_false]
theorem tl_aft1 (N : Nat → Nat → Nat) (a x : Nat) : aft (tlN N a x) (N 34 0 + 1) = if a = 2 then aft N (N 34 0) + x else if a = 0 then max (aft N (N 34 0)) (nd N x) else aft N (N 34 0) := by
  simp only [aft, tl_aft N a x _ (Nat.le_refl _), tl_nd, tl_32, tl_33, if_true]
theorem tl_ost {N : Nat → Nat → Nat} (hh : N 35 0 ≤ N 34 0) (a x q : Nat) : ost (tlN N a x) q = ost N q := by
  unfold ost
  rw [tl_o (by decide) (by decide) (by decide), tl_o (by decide) (by decide) (by decide), tl_nd, tl_opn N a x q _ hh]
theorem tl_rF {D : Nat → Nat → Nat → Int32} {N : Nat → Nat → Nat} (a x : Nat) (h : rF D N) : rF (tlD D (N 34 0) (nI a) (nI x)) (tlN N a x) := by
  obtain ⟨h1, h2, h3⟩ := h
  refine ⟨?_, ?_, fun i hi => ?_⟩
  · rw [tl_34]; simp [tlD, u3]
  · rw [tl_o (by decide) (by decide) (by decide)]; simp [tlD, u3]; exact h2
  · rw [tl_34] at hi
    rw [tl_32, tl_33]
    by_cases e : i = N 34 0
    · subst e; simp [tlD, u3]
    · simp [tlD, u3, e]; exact h3 i (by omega)
theorem tl_rA {D : Nat → Nat → Nat → Int32} {N : Nat → Nat → Nat} {Z : Nat → Nat → Int32} (w a x : Nat) (b y : Int32) (hh : N 35 0 ≤ N 34 0) (h : rA D N Z) : rA (tlD D w b y) (tlN N a x) Z := by
  unfold tlD
  refine rA_u3 (by decide) (by decide) (rA_u3 (by decide) (by decide) (rA_u3 (by decide) (by decide) ?_))
  intro q hq hs
  rw [tl_o (by decide) (by decide) (by decide)] at hq hs
  obtain ⟨h1, h2, h3, h4, h5, h6, h7⟩ := h q hq hs
  rw [tl_ost hh, tl_nd]
  simp only [tl_o (show ¬ 16 = 32 by decide) (show ¬ 16 = 33 by decide) (show ¬ 16 = 34 by decide), tl_o (show ¬ 15 = 32 by decide) (show ¬ 15 = 33 by decide) (show ¬ 15 = 34 by decide), tl_o (show ¬ 7 = 32 by decide) (show ¬ 7 = 33 by decide) (show ¬ 7 = 34 by decide), tl_o (show ¬ 17 = 32 by decide) (show ¬ 17 = 33 by decide) (show ¬ 17 = 34 by decide), tl_o (show ¬ 18 = 32 by decide) (show ¬ 18 = 33 by decide) (show ¬ 18 = 34 by decide)]
  refine ⟨h1, h2, h3, h4, ?_, h6, h7⟩
  unfold tlN
  exact rG_un (by decide) (rG_un (by decide) (rG_un (by decide) h5))
/-- all but the client's own number told -/
theorem tl_rel {ad : Nat → Nat → Nat} {M M' : zM} {D : Nat → Nat → Nat → Int32} {E : Nat → Nat → Nat → Option Nat} {qa : Nat → Nat} {c a x t : Nat} {N : Nat → Nat → Nat} {Z : Nat → Nat → Int32} (hh : N 35 0 ≤ N 34 0) (ht : t = aft (tlN N a x) (N 34 0 + 1)) (h : cR ad M D E qa c N Z) (hX : zX (cV N) ad M' (u3 (tlD D (N 34 0) (nI a) (nI x)) 1 0 2 (nI t)) E) : cR ad M' (u3 (tlD D (N 34 0) (nI a) (nI x)) 1 0 2 (nI t)) E qa c (tlN N a x) Z := by
  obtain ⟨-, hS, hO, hK, hQ, hA, hT, hF, hL, hE⟩ := h
  refine ⟨?_, ?_, ?_, ?_, ?_, rA_u3 (by decide) (by decide) (tl_rA _ a x _ _ hh hA), ?_, rF_u3 (by decide) (by decide) (by decide) (tl_rF a x hF), ?_, ?_⟩
  · unfold tlN; exact zX_cV (by decide) (by decide) (zX_cV (by decide) (by decide) (zX_cV (by decide) (by decide) hX))
  · simp [rS, tlN, tlD, un, u3] at hS ⊢; exact hS
  · unfold tlN tlD; exact rO_un (by decide) (by decide) (by decide) (rO_un (by decide) (by decide) (by decide) (rO_un (by decide) (by decide) (by decide) (rO_u3 (by decide) (rO_u3 (by decide) (rO_u3 (by decide) (rO_u3 (by decide) hO))))))
  · unfold tlN tlD; exact rK_un (by decide) (by decide) (by decide) (by decide) (rK_un (by decide) (by decide) (by decide) (by decide) (rK_un (by decide) (by decide) (by decide) (by decide) (rK_u3 (by decide) (rK_u3 (by decide) (rK_u3 (by decide) (rK_u3 (by decide) hK))))))
  · unfold tlN tlD; exact rQ_un (by decide) (by decide) (by decide) (by decide) (by decide) (by decide) (by decide) (by decide) (rQ_un (by decide) (by decide) (by decide) (by decide) (by decide) (by decide) (by decide) (by decide) (rQ_un (by decide) (by decide) (by decide) (by decide) (by decide) (by decide) (by decide) (by decide) (rQ_u3 (by decide) (rQ_u3 (by decide) (rQ_u3 (by decide) (rQ_u3 (by decide) hQ))))))
  · obtain ⟨h1, h2, h3⟩ := hT
    refine ⟨?_, ?_, ?_⟩
    · rw [tl_o (by decide) (by decide) (by decide), tl_aft N a x _ hh]
      simp [tlD, u3]; exact h1
    · rw [tl_34, u3_s, ht]
    · rw [tl_o (by decide) (by decide) (by decide)]
      intro e h4 h5
      rw [tl_o (by decide) (by decide) (by decide)]
      simp [tlD, u3]
      exact h3 e h4 h5
  · unfold tlN tlD; exact rL_un (by decide) (by decide) (by decide) (rL_un (by decide) (by decide) (by decide) (rL_un (by decide) (by decide) (by decide) (rL_u3 (by omega) (rL_u3 (by omega) (rL_u3 (by omega) (rL_u3 (by omega) hL))))))
  · unfold tlN; exact rE_un (by decide) (by decide) (rE_un (by decide) (by decide) (rE_un (by decide) (by decide) hE))
/-- the client's own number told stays -/
theorem tl_rel0 {ad : Nat → Nat → Nat} {M M' : zM} {D : Nat → Nat → Nat → Int32} {E : Nat → Nat → Nat → Option Nat} {qa : Nat → Nat} {c a x t : Nat} {N : Nat → Nat → Nat} {Z : Nat → Nat → Int32} (hh : N 35 0 ≤ N 34 0) (ht : D 1 0 2 = nI t) (ht2 : t = aft (tlN N a x) (N 34 0 + 1)) (h : cR ad M D E qa c N Z) (hX : zX (cV N) ad M' (tlD D (N 34 0) (nI a) (nI x)) E) : cR ad M' (tlD D (N 34 0) (nI a) (nI x)) E qa c (tlN N a x) Z := by
  obtain ⟨-, hS, hO, hK, hQ, hA, hT, hF, hL, hE⟩ := h
  refine ⟨?_, ?_, ?_, ?_, ?_, tl_rA _ a x _ _ hh hA, ?_, tl_rF a x hF, ?_, ?_⟩
  · unfold tlN; exact zX_cV (by decide) (by decide) (zX_cV (by decide) (by decide) (zX_cV (by decide) (by decide) hX))
  · simp [rS, tlN, tlD, un, u3] at hS ⊢; exact hS
  · unfold tlN tlD; exact rO_un (by decide) (by decide) (by decide) (rO_un (by decide) (by decide) (by decide) (rO_un (by decide) (by decide) (by decide) (rO_u3 (by decide) (rO_u3 (by decide) (rO_u3 (by decide) hO)))))
  · unfold tlN tlD; exact rK_un (by decide) (by decide) (by decide) (by decide) (rK_un (by decide) (by decide) (by decide) (by decide) (rK_un (by decide) (by decide) (by decide) (by decide) (rK_u3 (by decide) (rK_u3 (by decide) (rK_u3 (by decide) hK)))))
  · unfold tlN tlD; exact rQ_un (by decide) (by decide) (by decide) (by decide) (by decide) (by decide) (by decide) (by decide) (rQ_un (by decide) (by decide) (by decide) (by decide) (by decide) (by decide) (by decide) (by decide) (rQ_un (by decide) (by decide) (by decide) (by decide) (by decide) (by decide) (by decide) (by decide) (rQ_u3 (by decide) (rQ_u3 (by decide) (rQ_u3 (by decide) hQ)))))
  · obtain ⟨h1, h2, h3⟩ := hT
    refine ⟨?_, ?_, ?_⟩
    · rw [tl_o (by decide) (by decide) (by decide), tl_aft N a x _ hh]
      simp [tlD, u3]; exact h1
    · rw [tl_34, ← ht2]
      simp [tlD, u3]; exact ht
    · rw [tl_o (by decide) (by decide) (by decide)]
      intro e h4 h5
      rw [tl_o (by decide) (by decide) (by decide)]
      simp [tlD, u3]
      exact h3 e h4 h5
  · unfold tlN tlD; exact rL_un (by decide) (by decide) (by decide) (rL_un (by decide) (by decide) (by decide) (rL_un (by decide) (by decide) (by decide) (rL_u3 (by omega) (rL_u3 (by omega) (rL_u3 (by omega) hL)))))
  · unfold tlN; exact rE_un (by decide) (by decide) (rE_un (by decide) (by decide) (rE_un (by decide) (by decide) hE))
theorem cnt_le (P : Nat → Bool) : ∀ n, cnt P n ≤ n
  | 0 => Nat.le_refl _
  | n + 1 => by have := cnt_le P n; simp only [cnt]; split <;> omega
theorem cnt_congr {P Q : Nat → Bool} : ∀ n, (∀ i, i < n → P i = Q i) → cnt P n = cnt Q n
  | 0, _ => rfl
  | n + 1, h => by simp only [cnt]; rw [cnt_congr n (fun i hi => h i (by omega)), h n (by omega)]
theorem cnt_up {P Q : Nat → Bool} {q : Nat} : ∀ n, q < n → P q = false → Q q = true → (∀ i, i ≠ q → P i = Q i) → cnt Q n = cnt P n + 1
  | 0, h, _, _, _ => by omega
  | n + 1, h, hp, hq, ho => by
    simp only [cnt]
    by_cases e : q = n
    · subst e
      rw [hp, hq, cnt_congr (P := Q) (Q := P) q (fun i hi => (ho i (by omega)).symm)]
      simp
    · rw [cnt_up n (by omega) hp hq ho, ho n (fun z => e z.symm)]
      omega
theorem tl_jQ {N : Nat → Nat → Nat} {a x : Nat} (hn : a ≠ 2 → x < N 6 0 → N 9 x ≠ 0) (h : jQ N) : jQ (tlN N a x) := by
  intro q hq
  rw [tl_o (by decide) (by decide) (by decide)] at hq
  obtain ⟨a1, a2, a3, a4, a5, a6, a7, a8, a9, a10, a11, a12⟩ := h q hq
  have e : ∀ k j, ¬ k = 32 → ¬ k = 33 → ¬ k = 34 → tlN N a x k j = N k j := fun k j h1 h2 h3 => tl_o h1 h2 h3 j
  rw [e 8 _ (by decide) (by decide) (by decide), e 7 _ (by decide) (by decide) (by decide), e 15 _ (by decide) (by decide) (by decide), e 9 _ (by decide) (by decide) (by decide), e 16 _ (by decide) (by decide) (by decide), e 36 _ (by decide) (by decide) (by decide), e 38 _ (by decide) (by decide) (by decide), e 13 _ (by decide) (by decide) (by decide), e 5 _ (by decide) (by decide) (by decide), e 11 _ (by decide) (by decide) (by decide), e 18 _ (by decide) (by decide) (by decide), e 17 _ (by decide) (by decide) (by decide), tl_34]
  refine ⟨a1, a2, a3, a4, a5, a6, a7, a8, a9, a10, fun h0 i hi => ?_, a12⟩
  rw [tl_32, tl_33]
  by_cases ei : i = N 34 0
  · rw [if_pos ei, if_pos ei]
    intro h2 hxq
    subst hxq
    exact hn h2 hq h0
  · rw [if_neg ei, if_neg ei]
    exact a11 h0 i (by omega)
theorem tl_jR {N : Nat → Nat → Nat} (a x : Nat) (h : jR N) : jR (tlN N a x) := by
  unfold tlN; exact jR_un (by decide) (by decide) (by decide) (by decide) (by decide) (by decide) (by decide) (by decide) (by decide) (jR_un (by decide) (by decide) (by decide) (by decide) (by decide) (by decide) (by decide) (by decide) (by decide) (jR_un (by decide) (by decide) (by decide) (by decide) (by decide) (by decide) (by decide) (by decide) (by decide) h))
theorem tl_jK {N : Nat → Nat → Nat} {k : Nat} (a x : Nat) (h : jK N k) : jK (tlN N a x) (k + 1) := by
  unfold jK at *
  simp [tlN, un] at h ⊢
  exact ⟨⟨h.1.1, by omega, by omega, h.1.2.2.2⟩, h.2⟩
theorem tl_jW {N : Nat → Nat → Nat} {a x : Nat} (ha : a ≤ 2) (hx : a ≠ 2 → x < N 6 0) (hw : N 34 0 + 1 ≤ cnt (fun q => !decide (N 9 q = 0)) (N 6 0) + aft (tlN N a x) (N 34 0 + 1)) (h29 : aft (tlN N a x) (N 34 0 + 1) ≤ N 29 0) (h : jW N) : jW (tlN N a x) := by
  obtain ⟨w1, w2, w3, w4, w5, w6⟩ := h
  refine ⟨fun i hi => ?_, ?_, ?_, ?_, ?_, ?_⟩
  · rw [tl_34] at hi
    rw [tl_32, tl_33, tl_o (by decide) (by decide) (by decide)]
    by_cases ei : i = N 34 0
    · rw [if_pos ei, if_pos ei]
      exact ⟨ha, hx⟩
    · rw [if_neg ei, if_neg ei]
      exact w1 i (by omega)
  · rw [tl_34, tl_o (by decide) (by decide) (by decide)]; omega
  · rw [tl_34, show (fun q => !decide (tlN N a x 9 q = 0)) = (fun q => !decide (N 9 q = 0)) from funext fun q => by rw [tl_o (by decide) (by decide) (by decide)], tl_o (by decide) (by decide) (by decide)]
    exact hw
  · rw [tl_34, tl_o (by decide) (by decide) (by decide)]; exact h29
  · rw [tl_o (by decide) (by decide) (by decide), tl_o (by decide) (by decide) (by decide)]; exact w5
  · rw [show (fun q => decide (0 < tlN N a x 16 q)) = (fun q => decide (0 < N 16 q)) from funext fun q => by rw [tl_o (by decide) (by decide) (by decide)], tl_o (by decide) (by decide) (by decide), tl_o (by decide) (by decide) (by decide)]
    exact w6
theorem op_report (k ax am : Nat) (M1 M2 : zM) (hJ : zJ k ax am M1 M2) (hk : k < 512) : w_X_report M1 ax (fun v M1' => w_Y_report M2 am (fun v' M2' => v = v' ∧ zJ (k + 1) ax am M1' M2')) := by
  have hJ0 := hJ
  obtain ⟨ad, ar, D, E, qa, c, N, Z, rfl, hy, hcR, jq, jr, jw, jk, jk2⟩ := hJ
  have hcR' := hcR
  obtain ⟨hX, hS, hO, hK, hQ, hA, hT, hF, hL, hE⟩ := hcR
  obtain ⟨w1, w2, w3, w4, w5, w6⟩ := jw
  have c1 := cnt_le (fun q => !decide (N 9 q = 0)) (N 6 0)
  have c2 := cnt_le (fun q => decide (0 < N 16 q)) (N 6 0)
  have n60 := jk.1
  unfold w_X_report w_Y_report
  refine ⟨hX.T hX.v8, c_ref hX hX.v8 hX.e81 ⟨hX.T hX.v1, c_ref hX hX.v8 hX.e81 ⟨hX.T hX.v1, ?_⟩⟩⟩
  have hab : ∀ i, i < N 34 0 → N 32 i = 0 → N 33 i < 60 := fun i hi h0 => by have := (w1 i hi).2 (by omega); omega
  rw [hX.I hX.v1, hX.I hX.v1, hS.2.2.1.1, hT.2.1, n_sub w4, l0, n_lt (by omega) (by omega)]
  refine n_ite (fun hc => ?_) (fun hc => ?_)
  · refine c_ref hX hX.v8 hX.e82 ⟨hX.T hX.v2, c_append hX hF.1 (by omega) (fun M1 hX1 => ⟨hX1.T hX1.v8, c_ref hX1 hX1.v8 hX1.e81 ⟨hX1.T hX1.v1, ?_⟩⟩)⟩
    refine c_setI hX1 hX1.v1 2 (v := nI (N 29 0)) ((hX1.I hX1.v1 1).trans hS.2.2.1.1) (fun M1 hX2 => ⟨hy.T, ?_⟩)
    rw [hy.sc 34 rfl]
    refine y_after hy (by omega) hab (by omega) ⟨hy.T, ?_⟩
    rw [hy.sc 29 rfl, n_lt (by omega) (by omega), n_sub w4]
    have e : aft (tlN N 2 (N 29 0 - aft N (N 34 0))) (N 34 0 + 1) = N 29 0 := by
      rw [tl_aft1, if_pos rfl]
      omega
    refine n_yes (by omega) (y_tell (a := 2) hy (by omega) (by omega) (by omega) (fun M2 hy2 => ⟨rfl, ad, ar, _, E, qa, c, tlN N 2 (N 29 0 - aft N (N 34 0)), Z, rfl, hy2, tl_rel w2 e.symm hcR' hX2, tl_jQ (fun h => absurd rfl h) jq, tl_jR _ _ jr, tl_jW (by omega) (fun h => absurd rfl h) (by rw [e]; omega) (by rw [e]; omega) ⟨w1, w2, w3, w4, w5, w6⟩, tl_jK _ _ ⟨jk, jk2⟩⟩))
  · refine ⟨hy.T, ?_⟩
    rw [hy.sc 34 rfl]
    refine y_after hy (by omega) hab (by omega) ⟨hy.T, ?_⟩
    rw [hy.sc 29 rfl, n_lt (by omega) (by omega)]
    exact n_not (by omega) ⟨rfl, zJ_skip hJ0 hk⟩
