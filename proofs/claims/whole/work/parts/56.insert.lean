def iF : Nat → Nat → (Nat → Nat → Nat) → (Nat → Nat → Int32) → Nat → (Nat → Nat → Nat) × (Nat → Nat → Int32) × Nat
  | 0, _, N, Z, m => (N, Z, m)
  | d + 1, i, N, Z, m => if N 15 i = 3 ∧ nd N i ≤ N 29 0 then iF d (i + 1) (rdT (un N 15 i 0) i) (rdZ (un N 15 i 0) Z i) (m + 1) else iF d (i + 1) N Z m
theorem co_ins {ad : Nat → Nat → Nat} {E : Nat → Nat → Nat → Option Nat} {qa : Nat → Nat} {c k : Nat} {post : Int32 → zM → Prop} : ∀ (d i : Nat) (N : Nat → Nat → Nat) (Z : Nat → Nat → Int32) (m : Nat) (M : zM) (D : Nat → Nat → Nat → Int32), i + d = N 6 0 → (∀ k j, N k j < 1073741824) → cR ad M D E qa c N Z → jI k N → (∀ M' D', cR ad M' D' E qa c (iF d i N Z m).1 (iF d i N Z m).2.1 → jI k (iF d i N Z m).1 → post (nI (iF d i N Z m).2.2) M') → w_X_readUnblocked_4 post (d + 1) M (ad 8 0) (nI m) (nI i) := by
  intro d
  induction d with
  | zero =>
    intro i N Z m M D hi hb hc hj K
    have hX := hc.1
    have n60 := hj.2.2.2.1.1
    rw [w_X_readUnblocked_4, hX.I hX.v8, hc.2.1.1.1, n_le (by omega) (by omega)]
    exact ⟨hX.T hX.v8, n_yes (by omega) (K M D hc hj)⟩
  | succ d ih =>
    intro i N Z m M D hi hb hc hj K
    have hc' := hc
    obtain ⟨hX, hS, hO, hK, hQ, hA, hT, hF, hL, hE⟩ := hc
    have n60 := hj.2.2.2.1.1
    have hq : i < N 6 0 := by omega
    have hV : cV N 3 i := by simp [cV]; exact hq
    obtain ⟨a1, a2, a3, a4, a5, a6, a7, a8⟩ := hj.1 i hq
    have b := fun k j => (show N k j < 2 ^ 31 by have := hb k j; omega)
    have skip : ¬ (N 15 i = 3 ∧ nd N i ≤ N 29 0) → w_X_readUnblocked_4 post (d + 1) M (ad 8 0) (nI m) (nI i + 1) := by
      intro hn
      rw [l1, n_add]
      refine ih (i + 1) N Z m M D (by omega) hb hc' hj (fun M' D' h1 h2 => ?_)
      have := K M' D'
      simp only [iF, if_neg hn] at this
      exact this h1 h2
    rw [w_X_readUnblocked_4, hX.I hX.v8, hS.1.1, n_le (by omega) (by omega)]
    refine ⟨hX.T hX.v8, n_not (by omega) (c_reqAt hX hS.1.1 (by omega) hq (hE i hq).1 ⟨ad 3 i, rfl, ?_⟩)⟩
    unfold w_X_isBlocked
    rw [hX.R hV, (hE i hq).2.1]
    refine ⟨hX.T hV, ?_⟩
    rcases Nat.eq_zero_or_pos (N 16 i) with h16 | h16
    · rw [if_pos h16]
      exact n_yesO rfl (n_yes rfl (skip (fun z => by have := (a6 (Or.inr z.1)).1; omega)))
    · rw [if_neg (by omega)]
      have hV0 : cV N 0 i := by simp [cV]; exact ⟨hq, h16⟩
      refine n_noO rfl ⟨ad 0 i, rfl, hX.T hV0, ?_⟩
      rw [hX.I hV0, (hA i hq h16).2.2.1]
      by_cases h15 : N 15 i = 3
      · rw [if_pos h15]
        obtain ⟨-, h9⟩ := a6 (Or.inr h15)
        have ndb : nd N i < 1073741824 := by unfold nd; have := hb 20 (3 * i); have := hb 20 (3 * i + 1); have := hb 20 (3 * i + 2); omega
        refine n_not (by decide) (n_not (by decide) ⟨hX.T hX.v8, hX.T hV, ad 0 i, by rw [hX.R hV, (hE i hq).2.1, if_neg (by omega)], ?_⟩)
        refine c_ref hX hX.v8 hX.e81 ⟨hX.T hX.v1, c_must hX hV0 (a := nd N i) (b := N 29 0) (hA i hq h16).1.2 hS.2.2.1.1 (by omega) (b _ _) ?_⟩
        by_cases hnd : N 29 0 < nd N i
        · rw [show decide (N 29 0 < nd N i) = true by simp [hnd]]
          exact n_not (by decide) (skip (fun z => by omega))
        · rw [show decide (N 29 0 < nd N i) = false by simp; omega]
          refine n_yes rfl ⟨hX.T hV, ?_⟩
          rw [hX.R hV, (hE i hq).2.1, if_neg (by omega)]
          refine ⟨ad 0 i, rfl, hX.T hV0, c_setI hX hV0 8 rfl (fun M1 hX1 => ⟨hX1.T hX1.v8, c_ref hX1 hX1.v8 hX1.e82 ?_⟩)⟩
          rw [hX1.R hV, (hE i hq).2.1, if_neg (by omega)]
          have e1 : u3 (u3 D 0 i 7 0) 0 i 8 0 = u3 D 0 i 8 0 := by
            rw [u3_self (k := 0) (i := i) (j := 7)]
            rw [(hA i hq h16).2.1, if_neg (by omega)]
          have hc1 : cR ad M1 (u3 D 0 i 8 0) E qa c (un N 15 i 0) Z := by
            have := rd15 (M' := M1) (q := i) (v := 0) (x := 0) (y := 0) rfl rfl (by omega) (by omega) hc' (by rw [e1]; exact hX1)
            rw [e1] at this; exact this
          have h240 := (jW_240 hq h9 hj).1
          refine ⟨ad 0 i, rfl, c_ref hX1 hX1.v8 hX1.e81 ⟨hX1.T hX1.v1, ?_⟩⟩
          refine co_rd (k := k) (q := i) (un_b hb (by omega)) hc1 (jI_15 (by omega) (by omega) (fun z => by omega) hq hj) (by simp [un]; exact hq) (by simp [un]; exact h16) (by simp [un]; exact h9) (by simp [un]) (by rw [nd_un (by decide)]; simp [un]; omega) (fun M1 D' hc2 hj2 h39 => ?_)
          rw [l1, n_add, n_add]
          refine ih (i + 1) _ _ (m + 1) M1 D' (by rw [rdT_o (by decide)]; simp [un]; omega) (rdT_b (un_b hb (by omega)) (by omega) (by simp [un]; omega)) hc2 hj2 (fun M' D' h1 h2 => ?_)
          have := K M' D'
          simp only [iF, if_pos (show N 15 i = 3 ∧ nd N i ≤ N 29 0 from ⟨h15, by omega⟩)] at this
          exact this h1 h2
      · rw [if_neg h15]
        exact n_yes rfl (n_yes rfl (skip (fun z => h15 z.1)))
theorem yo_ins {am : Nat} {ar : Nat → Nat} {k : Nat} {post : Int32 → zM → Prop} : ∀ (d i : Nat) (N : Nat → Nat → Nat) (Z : Nat → Nat → Int32) (m : Nat) (M : zM), i + d = N 6 0 → yR am ar M N Z → jI k N → (∀ M', yR am ar M' (iF d i N Z m).1 (iF d i N Z m).2.1 → post (nI (iF d i N Z m).2.2) M') → w_Y_insert_27 post (d + 1) M am (nI m) (nI i) := by
  intro d
  induction d with
  | zero =>
    intro i N Z m M hi hy hj K
    have n60 := hj.2.2.2.1.1
    rw [w_Y_insert_27, hy.sc 6 rfl, n_le (by omega) (by omega)]
    exact ⟨hy.T, n_yes (by omega) (K M hy)⟩
  | succ d ih =>
    intro i N Z m M hi hy hj K
    have n60 := hj.2.2.2.1.1
    have hq : i < N 6 0 := by omega
    obtain ⟨a1, a2, a3, a4, a5, a6, a7, a8⟩ := hj.1 i hq
    have hin : vp_in (nI i) 60 := (n_in (by omega) (by omega)).mpr (by omega)
    have ndb := nd_b hy i
    have skip : ¬ (N 15 i = 3 ∧ nd N i ≤ N 29 0) → w_Y_insert_27 post (d + 1) M am (nI m) (nI i + 1) := by
      intro hn
      rw [l1, n_add]
      refine ih (i + 1) N Z m M (by omega) hy hj (fun M' h1 => ?_)
      have := K M'
      simp only [iF, if_neg hn] at this
      exact this h1
    rw [w_Y_insert_27, hy.sc 6 rfl, n_le (by omega) (by omega)]
    refine ⟨hy.T, n_not (by omega) (y_get hy 15 20 60 rfl rfl ⟨hin, ?_⟩)⟩
    rw [n_cl (by omega), hy.rn 15 i rfl rfl (by decide), l3, n_eq (hy.b _ _) (by omega)]
    refine n_ite (fun h15 => y_need hy (by omega) ⟨hy.T, ?_⟩) (fun h15 => skip (fun z => h15 z.1))
    rw [hy.sc 29 rfl, n_lt (hy.b _ _) (by omega)]
    obtain ⟨h16, h9⟩ := a6 (Or.inr h15)
    have h240 := (jW_240 hq h9 hj).1
    refine n_ite (fun hn => skip (fun z => by omega)) (fun hn => yo_read hy (by omega) a1 (by omega) (fun M' hy' => ?_))
    obtain ⟨v, hv, hv5, h9'⟩ := rd_9 (un N 15 i 0) i
    have e9 : rd1 (un N 15 i 0) i 9 i = v := by rw [h9']; simp [un]
    rw [e9, l0, n_le (by omega) (by omega)]
    refine n_not (by omega) ?_
    rw [l1, n_add, n_add]
    have hj2 : jI k (rdT (un N 15 i 0) i) := rd_J (by simp [un]; exact hq) (by simp [un]; exact h16) (by simp [un]; exact h9) (by simp [un]) (by rw [nd_un (by decide)]; simp [un]; omega) (jI_15 (by omega) (by omega) (fun z => by omega) hq hj)
    refine ih (i + 1) _ _ (m + 1) M' (by rw [rdT_o (by decide)]; simp [un]; omega) hy' hj2 (fun M' h1 => ?_)
    have := K M'
    simp only [iF, if_pos (show N 15 i = 3 ∧ nd N i ≤ N 29 0 from ⟨h15, by omega⟩)] at this
    exact this h1
theorem op_insert (k ax am : Nat) (M1 M2 : zM) (hJ : zJ k ax am M1 M2) (hk : k < 512) : w_X_insert M1 ax (fun v M1' => w_Y_insert M2 am (fun v' M2' => v = v' ∧ zJ (k + 1) ax am M1' M2')) := by
  have hJ0 := hJ
  obtain ⟨ad, ar, D, E, qa, c, N, Z, rfl, hy, hcR, hjI⟩ := hJ
  have hcR' := hcR
  have hjI' := hjI
  obtain ⟨hX, hS, hO, hK, hQ, hA, hT, hF, hL, hE⟩ := hcR
  obtain ⟨jq, jr, ⟨w1, w2, w3, w4, w5, w6⟩, jk, jk2⟩ := hjI
  have hc16 := cnt_le (fun p => decide (0 < N 16 p)) (N 6 0)
  have n60 := jk.1
  unfold w_X_insert
  refine ⟨hX.T hX.v8, c_ref hX hX.v8 hX.e81 ⟨hX.T hX.v1, c_ref hX hX.v8 hX.e80 ⟨hX.T hX.v5, c_ref hX hX.v5 hX.e51 ⟨hX.T hX.v7, ?_⟩⟩⟩⟩
  rw [hX.I hX.v1, hX.I hX.v7, hS.2.2.1.1, hS.2.2.2.1, n_lt (hy.b _ _) (hy.b _ _)]
  refine n_ite (fun hlt => ?_) (fun hlt => ?_)
  · refine c_ref hX hX.v8 hX.e81 ⟨hX.T hX.v1, ?_⟩
    rw [hX.I hX.v1, hS.2.2.1.1, l1, n_add]
    refine c_setI hX hX.v1 1 rfl (fun M1 hX1 => ⟨N 6 0 + 1, ?_⟩)
    have hc1 : cR ad M1 (u3 D 1 0 1 (nI (N 29 0 + 1))) E qa c (un N 29 0 (N 29 0 + 1)) Z := by
      refine ⟨zX_cV (by decide) (by decide) hX1, ?_, rO_un (by decide) (by decide) (by decide) (rO_u3 (by decide) hO), rK_un (by decide) (by decide) (by decide) (by decide) (rK_u3 (by decide) hK), rQ_un (by decide) (by decide) (by decide) (by decide) (by decide) (by decide) (by decide) (by decide) (rQ_u3 (by decide) hQ), rA_un (by decide) (by decide) (by decide) (by decide) (by decide) (by decide) (by decide) (by decide) (by decide) (by decide) (rA_u3 (by decide) (by decide) hA), rT_un (by decide) (by decide) (by decide) (by decide) (by decide) (by decide) (by decide) (rT_u3 (by omega) (by omega) (by omega) (by omega) hT), rF_un (by decide) (by decide) (by decide) (by decide) (rF_u3 (by decide) (by decide) (by decide) hF), rL_un (by decide) (by decide) (by decide) (rL_u3 (by omega) hL), rE_un (by decide) (by decide) hE⟩
      simp [rS, un, u3] at hS ⊢; exact ⟨hS.1, hS.2.1, hS.2.2.1.2, hS.2.2.2⟩
    have hj1 : jI k (un N 29 0 (N 29 0 + 1)) := by
      refine ⟨jQ_un (by decide) (by decide) (by decide) (by decide) (by decide) (by decide) (by decide) (by decide) (by decide) (by decide) (by decide) (by decide) (by decide) (by decide) (by decide) (by decide) jq, jR_un (by decide) (by decide) (by decide) (by decide) (by decide) (by decide) (by decide) (by decide) (by decide) jr, ?_, ?_⟩
      · unfold jW
        rw [aft_un (by decide) (by decide) (by decide)]
        simp [un]
        exact ⟨w1, w2, w3, by omega, by omega, w6⟩
      · unfold jK at *
        simp [un] at jk jk2 ⊢
        exact ⟨jk, jk2⟩
    rw [l0]
    refine co_ins (k := k) (N 6 0) 0 _ Z 0 M1 _ (by simp [un]) (un_b hy.b30 (by omega)) hc1 hj1 (fun M1 D' hc2 hj2 => ?_)
    unfold w_Y_insert
    rw [hy.sc 29 rfl, hy.sc 28 rfl, n_eq (hy.b _ _) (hy.b _ _), l1, n_add]
    refine ⟨hy.T, n_not (by omega) (y_setS hy 29 (N 29 0 + 1) rfl rfl (by omega) (fun M2 hy2 => ⟨N 6 0 + 1, ?_⟩))⟩
    rw [l0]
    exact yo_ins (k := k) (N 6 0) 0 _ Z 0 M2 (by simp [un]) hy2 hj1 (fun M2 hy3 => ⟨rfl, ad, ar, D', E, qa, c, _, _, rfl, hy3, hc2, jI_up hj2⟩)
  · unfold w_Y_insert
    rw [hy.sc 29 rfl, hy.sc 28 rfl, n_eq (hy.b _ _) (hy.b _ _)]
    exact ⟨hy.T, n_yes (by omega) ⟨rfl, zJ_skip hJ0 hk⟩⟩
