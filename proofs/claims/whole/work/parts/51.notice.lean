def ntN (N : Nat → Nat → Nat) (b : Nat) : Nat → Nat → Nat → Nat
  | 0 => N
  | d + 1 => if ntN N b d 9 (b + d) = 0 then stN (ntN N b d) (b + d) 7 else ntN N b d
def ntc (N : Nat → Nat → Nat) (b : Nat) : Nat → Nat
  | 0 => 0
  | d + 1 => ntc N b d + (if ntN N b d 9 (b + d) = 0 then 1 else 0)
theorem nt_o (N : Nat → Nat → Nat) (b : Nat) {k : Nat} (h9 : ¬ k = 9) (h15 : ¬ k = 15) (j : Nat) : ∀ d, ntN N b d k j = N k j
  | 0 => rfl
  | d + 1 => by
    have ih := nt_o N b h9 h15 j d
    simp only [ntN]
    split
    · simp [stN, un, h9, h15]; exact ih
    · exact ih
theorem ntc_le (N : Nat → Nat → Nat) (b : Nat) : ∀ d, ntc N b d ≤ d
  | 0 => Nat.le_refl _
  | d + 1 => by have := ntc_le N b d; simp only [ntc]; split <;> omega
theorem yo_notice_loop {am : Nat} {ar : Nat → Nat} {N : Nat → Nat → Nat} {Z : Nat → Nat → Int32} {post : Int32 → zM → Prop} {b : Nat} (hn : N 6 0 ≤ 60) (hb : b ≤ 60) (K : ∀ M', yR am ar M' (ntN N b (N 6 0 - b)) Z → post (nI (ntc N b (N 6 0 - b))) M') :
    ∀ f d (M : zM), d + f = N 6 0 - b → yR am ar M (ntN N b d) Z → w_Y_notice_28 post (f + 1) M am (nI (ntc N b d)) (nI (b + d)) := by
  intro f
  induction f with
  | zero =>
    intro d M hd hy
    rw [w_Y_notice_28, hy.sc 6 rfl, nt_o N b (by decide) (by decide)]
    obtain rfl : d = N 6 0 - b := by omega
    exact ⟨hy.T, n_yes (by rw [n_le (by omega) (by omega)]; omega) (K M hy)⟩
  | succ f ih =>
    intro d M hd hy
    rw [w_Y_notice_28, hy.sc 6 rfl, nt_o N b (by decide) (by decide)]
    have hin : vp_in (nI (b + d)) 60 := (n_in (by omega) (by omega)).mpr (by omega)
    refine ⟨hy.T, n_not (by rw [n_le (by omega) (by omega)]; omega) (y_get hy 9 20 60 rfl rfl ⟨hin, ?_⟩)⟩
    rw [n_cl (by omega), hy.rn 9 (b + d) rfl rfl (by decide), l0, n_eq (hy.b _ _) (by omega), l1, n_add, n_add]
    refine n_ite (fun h0 => ?_) (fun h0 => ?_)
    · refine y_get hy 9 20 60 rfl rfl ⟨hin, y_putN hy 9 (b + d) 7 rfl rfl (by decide) rfl (by omega) (fun M hy => ?_)⟩
      refine y_get hy 15 20 60 rfl rfl ⟨hin, y_putN hy 15 (b + d) 0 rfl rfl (by decide) rfl (by omega) (fun M hy => ?_)⟩
      have := ih (d + 1) M (by omega) (by simp only [ntN]; rw [if_pos h0]; exact hy)
      rw [show ntc N b (d + 1) = ntc N b d + 1 by simp only [ntc]; rw [if_pos h0]] at this
      exact this
    · have := ih (d + 1) M (by omega) (by simp only [ntN]; rw [if_neg h0]; exact hy)
      rw [show ntc N b (d + 1) = ntc N b d by simp only [ntc]; rw [if_neg h0]; rfl] at this
      exact this
theorem co_refuse_loop {ad : Nat → Nat → Nat} {E : Nat → Nat → Nat → Option Nat} {qa : Nat → Nat} {c k : Nat} {N : Nat → Nat → Nat} {Z : Nat → Nat → Int32} {post : Int32 → zM → Prop} {b : Nat} {x1 : Int32} (hb : b ≤ 60) (h36 : N 36 0 = 1) (hbd : N 38 0 = b) (K : ∀ M' D', cR ad M' D' E qa c (ntN N b (N 6 0 - b)) Z → jI k (ntN N b (N 6 0 - b)) → post (nI (ntc N b (N 6 0 - b))) M') :
    ∀ f d (M : zM) (D : Nat → Nat → Nat → Int32), d + f = N 6 0 - b → cR ad M D E qa c (ntN N b d) Z → jI k (ntN N b d) → (∀ j, ntN N b d 9 j < 2 ^ 31) → w_X_refuseFrom_4 post (f + 1) M (ad 8 0) x1 (nI (ntc N b d)) (nI (b + d)) := by
  intro f
  induction f with
  | zero =>
    intro d M D hd hc hj h9
    have hX := hc.1
    have hn := hj.2.2.2.1.1
    rw [nt_o N b (by decide) (by decide)] at hn
    rw [w_X_refuseFrom_4, hX.I hX.v8, hc.2.1.1.1, nt_o N b (by decide) (by decide)]
    obtain rfl : d = N 6 0 - b := by omega
    exact ⟨hX.T hX.v8, n_yes (by rw [n_le (by omega) (by omega)]; omega) (K M D hc hj)⟩
  | succ f ih =>
    intro d M D hd hc hj h9
    have hc' := hc
    obtain ⟨hX, hS, hO, hKk, hQ, hA, hT, hF, hL, hE⟩ := hc
    have hn := hj.2.2.2.1.1
    rw [nt_o N b (by decide) (by decide)] at hn
    have e6 : ntN N b d 6 0 = N 6 0 := nt_o N b (by decide) (by decide) 0 d
    have hq : b + d < ntN N b d 6 0 := by rw [e6]; omega
    have hV : cV (ntN N b d) 3 (b + d) := by simp [cV]; exact hq
    rw [w_X_refuseFrom_4, hX.I hX.v8, hS.1.1, e6]
    refine ⟨hX.T hX.v8, n_not (by rw [n_le (by omega) (by omega)]; omega) ?_⟩
    refine c_reqAt hX (n := N 6 0) (by rw [hS.1.1, e6]) (by omega) (by omega) (hE _ hq).1 (n_noO rfl ⟨hX.T hV, ?_⟩)
    rw [hX.I hV, (hQ _ hq).2.2.1, l0, n_eq (h9 _) (by omega), l1, n_add, n_add]
    refine n_ite (fun h0 => ?_) (fun h0 => ?_)
    · refine c_settle hX hV (fun M hX1 => ⟨hX1.T hV, c_setI hX1 hV 8 rfl (fun M hX1 => ?_)⟩)
      have h16 : ntN N b d 16 (b + d) = 0 := (hj.1 _ hq).2.2.2.2.2.2.2.2.2.1 (by rw [nt_o N b (by decide) (by decide)]; exact h36) (by rw [nt_o N b (by decide) (by decide), hbd]; omega)
      have hr := st_rel (v := 7) (by decide) (Or.inl ⟨h16, rfl⟩) hc' hX1
      have hj2 := st_jI (v := 7) (by decide) (by decide) hq h0 hj
      have e1 : ntN N b (d + 1) = stN (ntN N b d) (b + d) 7 := by simp only [ntN]; rw [if_pos h0]
      have := ih (d + 1) M _ (by omega) (by rw [e1]; exact hr) (by rw [e1]; exact hj2) (fun j => by
        rw [e1]; simp only [stN, un]
        have := h9 j
        split
        · omega
        · split <;> omega)
      rw [show ntc N b (d + 1) = ntc N b d + 1 by simp only [ntc]; rw [if_pos h0]] at this
      exact this
    · have e1 : ntN N b (d + 1) = ntN N b d := by simp only [ntN]; rw [if_neg h0]
      have := ih (d + 1) M D (by omega) (by rw [e1]; exact hc') (by rw [e1]; exact hj) (fun j => by rw [e1]; exact h9 j)
      rw [show ntc N b (d + 1) = ntc N b d by simp only [ntc]; rw [if_neg h0]; rfl] at this
      exact this
theorem op_notice (k ax am : Nat) (M1 M2 : zM) (hJ : zJ k ax am M1 M2) (hk : k < 512) : w_X_notice M1 ax (fun v M1' => w_Y_notice M2 am (fun v' M2' => v = v' ∧ zJ (k + 1) ax am M1' M2')) := by
  have hJ0 := hJ
  obtain ⟨ad, ar, D, E, qa, c, N, Z, rfl, hy, hcR, hjI⟩ := hJ
  obtain ⟨hX, hS, hO, hK, hQ, hA, hT, hF, hL, hE⟩ := hcR
  obtain ⟨jq, jr, jw, jk, jk2⟩ := hjI
  have n60 := jk.1
  unfold w_X_notice
  refine ⟨hX.T hX.v8, c_ref hX hX.v8 hX.e80 ⟨hX.T hX.v5, ?_⟩⟩
  rw [hX.I hX.v5, hS.2.1.2.2.1, l0, n_eq (hy.b _ _) (by omega)]
  refine n_ite (fun h36 => ?_) (fun h36 => ?_)
  · unfold w_Y_notice
    rw [hy.sc 36 rfl, l0, n_eq (hy.b _ _) (by omega)]
    exact ⟨hy.T, n_yes h36 ⟨rfl, zJ_skip hJ0 hk⟩⟩
  · refine c_ref hX hX.v8 hX.e81 ⟨hX.T hX.v1, ?_⟩
    rw [hX.I hX.v1, hS.2.2.1.2, n_eq (hy.b _ _) (by omega)]
    refine n_ite (fun h37 => ?_) (fun h37 => ?_)
    · refine c_ref hX hX.v8 hX.e81 ⟨hX.T hX.v1, c_setI hX hX.v1 3 (v := nI 1) rfl (fun M1 hX1 => c_ref hX1 hX1.v8 hX1.e80 ⟨hX1.T hX1.v5, ?_⟩)⟩
      have e38 : zI M1 (ad 5 0) 5 = nI (N 38 0) := (hX1.I hX1.v5 5).trans hS.2.1.2.2.2
      rw [e38]
      have hc1 : cR ad M1 (u3 D 1 0 3 (nI 1)) E qa c (un N 37 0 1) Z := by
        refine ⟨zX_cV (by decide) (by decide) hX1, ?_, rO_un (by decide) (by decide) (by decide) (rO_u3 (by decide) hO), rK_un (by decide) (by decide) (by decide) (by decide) (rK_u3 (by decide) hK), rQ_un (by decide) (by decide) (by decide) (by decide) (by decide) (by decide) (by decide) (by decide) (rQ_u3 (by decide) hQ), rA_un (by decide) (by decide) (by decide) (by decide) (by decide) (by decide) (by decide) (by decide) (by decide) (by decide) (rA_u3 (by decide) (by decide) hA), rT_un (by decide) (by decide) (by decide) (by decide) (by decide) (by decide) (by decide) (rT_u3 (by omega) (by omega) (by omega) (by omega) hT), rF_un (by decide) (by decide) (by decide) (by decide) (rF_u3 (by decide) (by decide) (by decide) hF), rL_un (by decide) (by decide) (by decide) (rL_u3 (by omega) hL), rE_un (by decide) (by decide) hE⟩
        simp [rS, un, u3] at hS ⊢; exact ⟨hS.1, hS.2.1, hS.2.2.1.1, hS.2.2.2⟩
      have hj1 : jI (k + 1) (un N 37 0 1) := by
        refine ⟨jQ_un (by decide) (by decide) (by decide) (by decide) (by decide) (by decide) (by decide) (by decide) (by decide) (by decide) (by decide) (by decide) (by decide) (by decide) (by decide) (by decide) jq, jR_un (by decide) (by decide) (by decide) (by decide) (by decide) (by decide) (by decide) (by decide) (by decide) jr, jW_un (by decide) (by decide) (by decide) (by decide) (by decide) (by decide) (by decide) (by decide) (by decide) (by decide) jw, ?_⟩
        unfold jK at *
        simp [un] at jk jk2 ⊢
        exact ⟨⟨jk.1, by omega, by omega, jk.2.2.2.1, jk.2.2.2.2.1, by omega, jk.2.2.2.2.2.2.2⟩, jk2⟩
      have b38 := jk.2.2.2.2.2.2.2.1
      have e6 : un N 37 0 1 6 0 = N 6 0 := by simp [un]
      refine ⟨un N 37 0 1 6 0 - N 38 0 + 1, ?_⟩
      refine co_refuse_loop (N := un N 37 0 1) (k := k + 1) (b := N 38 0) b38 (by simp [un]; have := jk.2.2.2.2.1; omega) (by simp [un]) (fun M1 D' hc2 hj2 => ?_) (un N 37 0 1 6 0 - N 38 0) 0 M1 _ (by omega) hc1 hj1 (fun j => by have := hy.b 9 j; simpa [ntN, un] using this)
      unfold w_Y_notice
      rw [hy.sc 36 rfl, l0, n_eq (hy.b _ _) (by omega)]
      refine ⟨hy.T, n_not h36 ?_⟩
      rw [hy.sc 37 rfl, n_eq (hy.b _ _) (by omega)]
      refine n_yes h37 (y_setS hy 37 1 rfl rfl (by omega) (fun M2 hy1 => ⟨un N 37 0 1 6 0 - N 38 0 + 1, ?_⟩))
      rw [show zI M2 am 38 = nI (N 38 0) from (hy1.sc 38 rfl).trans (by simp [un])]
      exact yo_notice_loop (N := un N 37 0 1) (b := N 38 0) (by rw [e6]; exact n60) b38 (fun M2 hy2 => ⟨rfl, ad, ar, D', E, qa, c, _, Z, rfl, hy2, hc2, hj2⟩) (un N 37 0 1 6 0 - N 38 0) 0 M2 (by omega) hy1
    · unfold w_Y_notice
      rw [hy.sc 36 rfl, l0, n_eq (hy.b _ _) (by omega)]
      refine ⟨hy.T, n_not h36 ?_⟩
      rw [hy.sc 37 rfl, n_eq (hy.b _ _) (by omega)]
      exact n_not h37 ⟨rfl, zJ_skip hJ0 hk⟩
