theorem rd15 {ad : Nat → Nat → Nat} {M M' : zM} {D : Nat → Nat → Nat → Int32} {E : Nat → Nat → Nat → Option Nat} {qa : Nat → Nat} {c q v : Nat} {x y : Int32} {N : Nat → Nat → Nat} {Z : Nat → Nat → Int32} (hx : x = if v = 2 then 1 else 0) (hy : y = if v = 3 then 1 else 0) (hv : ¬ v = 1) (h1 : ¬ N 15 q = 1) (h : cR ad M D E qa c N Z) (hX : zX (cV N) ad M' (u3 (u3 D 0 q 7 x) 0 q 8 y) E) : cR ad M' (u3 (u3 D 0 q 7 x) 0 q 8 y) E qa c (un N 15 q v) Z := by
  obtain ⟨-, hS, hO, hK, hQ, hA, hT, hF, hL, hE⟩ := h
  refine ⟨zX_cV (by decide) (by decide) hX, ?_, rO_un (by decide) (by decide) (by decide) (rO_u3 (by decide) (rO_u3 (by decide) hO)), rK_un (by decide) (by decide) (by decide) (by decide) (rK_u3 (by decide) (rK_u3 (by decide) hK)), rQ_u3 (by decide) (rQ_u3 (by decide) ?_), ?_, rT_un (by decide) (by decide) (by decide) (by decide) (by decide) (by decide) (by decide) (rT_u3 (by omega) (by omega) (by omega) (by omega) (rT_u3 (by omega) (by omega) (by omega) (by omega) hT)), rF_un (by decide) (by decide) (by decide) (by decide) (rF_u3 (by decide) (by decide) (by decide) (rF_u3 (by decide) (by decide) (by decide) hF)), rL_un (by decide) (by decide) (by decide) (rL_u3 (by omega) (rL_u3 (by omega) hL)), rE_un (by decide) (by decide) hE⟩
  · simp [rS, un, u3] at hS ⊢; exact hS
  · intro p hp
    have hp : p < N 6 0 := by simpa [un] using hp
    have := hQ p hp
    by_cases e : p = q
    · subst e
      rw [if_neg h1] at this
      simp [un, hv]
      exact this
    · simp [un, e]
      exact this
  · intro p hp hs
    have hp : p < N 6 0 := by simpa [un] using hp
    have hs : 0 < N 16 p := by simpa [un] using hs
    obtain ⟨a, b, c, d, f, g⟩ := hA p hp hs
    rw [ost_un (by decide) (by decide) (by decide) (by decide) (by decide), nd_un (by decide)]
    have f' : rG (u3 (u3 D 0 q 7 x) 0 q 8 y) (un N 15 q v) p := rG_un (by decide) (rG_u3 (by decide) (by omega) (rG_u3 (by decide) (by omega) f))
    by_cases e : p = q
    · subst e
      simp [un, u3]
      exact ⟨a, hx, hy, d, f', g⟩
    · simp [un, u3, e]
      exact ⟨a, b, c, d, f', g⟩
theorem jI_15 {N : Nat → Nat → Nat} {k q v : Nat} (hv3 : v ≤ 3) (hv1 : ¬ v = 1) (hv2 : v = 2 ∨ v = 3 → 0 < N 16 q ∧ N 9 q = 0) (hq : q < N 6 0) (h : jI k N) : jI k (un N 15 q v) := by
  obtain ⟨jq, jr, jw, jk⟩ := h
  refine ⟨?_, jR_lt hq (by decide) (by decide) (by decide) (by decide) (by decide) jr, jW_un (by decide) (by decide) (by decide) (by decide) (by decide) (by decide) (by decide) (by decide) (by decide) (by decide) jw, ?_⟩
  · intro p hp
    have hp : p < N 6 0 := by simpa [un] using hp
    obtain ⟨a1, a2, a3, a4, a5, a6, a7⟩ := jq p hp
    by_cases e : p = q
    · subst e
      simp [un] at a7 ⊢
      exact ⟨a1, a2, hv3, a4, fun z => absurd z hv1, hv2, a7⟩
    · simp [un, e] at a7 ⊢
      exact ⟨a1, a2, a3, a4, a5, a6, a7⟩
  · unfold jK at *
    simp [un] at jk ⊢
    exact jk
theorem rd_jI {N N' : Nat → Nat → Nat} {k q v : Nat} (hN : ∀ k, ¬ k = 9 → ¬ k = 21 → ¬ k = 22 → ¬ k = 24 → ¬ k = 25 → N' k = N k) (h9 : ∀ p, N' 9 p = un N 9 q v 9 p) (hv : ¬ v = 0) (hv8 : v ≤ 8) (hq : q < N 6 0) (h0 : N 9 q = 0) (h15 : N 15 q = 0) (hr : ∀ r, r < 6 → N' 21 r ≤ N 6 0 ∧ (0 < N' 21 r → 0 < N' 22 r ∧ N' 24 r ≤ 1000 ∧ N' 25 r ≤ N 5 0)) (h : jI k N) : jI k N' := by
  obtain ⟨jq, jr, jw, jk, jk2⟩ := h
  have n : ∀ k, (¬ k = 9 ∧ ¬ k = 21 ∧ ¬ k = 22 ∧ ¬ k = 24 ∧ ¬ k = 25) → N' k = N k := fun k hk => hN k hk.1 hk.2.1 hk.2.2.1 hk.2.2.2.1 hk.2.2.2.2
  have haf := fun i => aft_ag (n 20 (by decide)) (n 32 (by decide)) (n 33 (by decide)) i
  refine ⟨?_, ?_, ?_, ?_⟩
  · intro p hp
    rw [n 6 (by decide)] at hp
    obtain ⟨a1, a2, a3, a4, a5, a6, a7⟩ := jq p hp
    rw [n 8 (by decide), n 7 (by decide), n 15 (by decide), h9 p, n 16 (by decide), n 36 (by decide), n 38 (by decide), n 34 (by decide), n 32 (by decide), n 33 (by decide), n 13 (by decide), n 5 (by decide), n 11 (by decide), n 18 (by decide), n 17 (by decide)]
    by_cases e : p = q
    · subst e
      simp [un, hv, h15]
      simp at a7
      exact ⟨a1, a2, hv8, a7.1, a7.2.1, a7.2.2.1, a7.2.2.2.1, a7.2.2.2.2.2⟩
    · simp [un, e] at a7 ⊢
      exact ⟨a1, a2, a3, a4, a5, a6, a7⟩
  · obtain ⟨r1, r2, r3, r4⟩ := jr
    unfold jR
    rw [n 20 (by decide), n 28 (by decide), n 26 (by decide), n 6 (by decide), n 16 (by decide), n 12 (by decide), n 13 (by decide), n 15 (by decide)]
    refine ⟨r1, r2, r3, fun p hp => ?_⟩
    rw [h9]
    simp [un, show ¬ p = q by omega]
    exact r4 p hp
  · obtain ⟨w1, w2, w3, w4, w5, w6⟩ := jw
    unfold jW
    rw [n 34 (by decide), n 32 (by decide), n 33 (by decide), n 6 (by decide), n 35 (by decide), haf, n 29 (by decide), n 28 (by decide), n 16 (by decide)]
    have : cnt (fun p => !decide (N' 9 p = 0)) (N 6 0) = cnt (fun p => !decide (N 9 p = 0)) (N 6 0) + 1 := by
      refine cnt_up _ hq ?_ ?_ (fun i hi => ?_)
      · simp [h0]
      · simp [h9, un, hv]
      · simp [h9, un, hi]
    exact ⟨w1, w2, by omega, w4, w5, w6⟩
  · unfold jK at *
    rw [n 6 (by decide), n 4 (by decide), n 5 (by decide), n 30 (by decide), n 31 (by decide), n 16 (by decide), n 36 (by decide), n 37 (by decide), n 38 (by decide), n 39 (by decide), n 0 (by decide), n 3 (by decide), n 2 (by decide)]
    exact ⟨jk, fun r hr' => ⟨(jk2 r hr').1, (jk2 r hr').2.1, (jk2 r hr').2.2.1, hr r hr'⟩⟩
theorem tl_jK0 {N : Nat → Nat → Nat} {k : Nat} (a x : Nat) (h : jK N k) : jK (tlN N a x) k := by
  unfold jK at *
  simp [tlN, un] at h ⊢
  exact h
theorem rd_9 (N : Nat → Nat → Nat) (q : Nat) : ∃ v, ¬ v = 0 ∧ v ≤ 5 ∧ ∀ p, rd1 N q 9 p = un N 9 q v 9 p := by
  unfold rd1
  split
  · refine ⟨2, by omega, by omega, fun p => ?_⟩
    split <;> simp [un]
  · split
    · refine ⟨1, by omega, by omega, fun p => ?_⟩
      split <;> simp [un]
    · split
      · exact ⟨5, by omega, by omega, fun p => rfl⟩
      · split
        · exact ⟨3, by omega, by omega, fun p => by simp [un]⟩
        · exact ⟨4, by omega, by omega, fun p => by simp [un]⟩
theorem rd_J {N : Nat → Nat → Nat} {k q : Nat} (hq : q < N 6 0) (hs : 0 < N 16 q) (h0 : N 9 q = 0) (h15 : N 15 q = 0) (hnd : nd N q ≤ N 29 0) (h : jI k N) : jI k (rdT N q) := by
  have o : ∀ k j, (¬ k = 9 ∧ ¬ k = 21 ∧ ¬ k = 22 ∧ ¬ k = 24 ∧ ¬ k = 25) → rd1 N q k j = N k j := fun k j hk => rd1_o hk.1 hk.2.1 hk.2.2.1 hk.2.2.2.1 hk.2.2.2.2 j
  obtain ⟨v, hv, hv5, h9⟩ := rd_9 N q
  have hj : jI k (rd1 N q) := by
    refine rd_jI (fun k h1 h2 h3 h4 h5 => funext fun j => rd1_o h1 h2 h3 h4 h5 j) h9 hv (by omega) hq h0 h15 (fun r hr => ?_) h
    obtain ⟨jq, jr, jw, jk, jk2⟩ := h
    obtain ⟨-, -, -, b1, b2⟩ := jk2 r hr
    obtain ⟨a1, a2, a3, a4, a5, a6, a7, a8, a9, a10, a11, a12, a13, a14⟩ := jq q hq
    have a14 := a14 hs
    unfold rd1
    by_cases e : r = N 8 q
    · subst e
      split
      · split
        · next hh => simp [un]; exact ⟨by omega, (b2 hh.1).1, a14.1, a12⟩
        · simp [un]; exact ⟨b1, b2⟩
      · split
        · next hh =>
          split
          · simp [un]; exact ⟨by omega, a14.2 hh.2 (by omega), a14.1, a12⟩
          · simp [un]; exact ⟨b1, b2⟩
        · split
          · simp [un]; exact ⟨b1, b2⟩
          · by_cases hl : N 21 (N 8 q) ≤ q
            · simp [un, hl]
            · simp [un, hl]; exact ⟨b1, b2⟩
    · split
      · split <;> (simp [un, e]; exact ⟨b1, b2⟩)
      · split
        · split <;> (simp [un, e]; exact ⟨b1, b2⟩)
        · split <;> (simp [un, e]; exact ⟨b1, b2⟩)
  unfold rdT
  split
  · next hp =>
    have hcn : cnt (fun p => !decide (rd1 N q 9 p = 0)) (N 6 0) = cnt (fun p => !decide (N 9 p = 0)) (N 6 0) + 1 := by
      refine cnt_up _ hq ?_ ?_ (fun i hi => ?_)
      · simp [h0]
      · simp [h9, un, hv]
      · simp [h9, un, hi]
    obtain ⟨w1, w2, w3, w4, w5, w6⟩ := h.2.2.1
    obtain ⟨j1, j2, j3, j4⟩ := hj
    have ha1 : aft (rd1 N q) (N 34 0) = aft N (N 34 0) := aft_ag (funext fun j => o 20 j (by decide)) (funext fun j => o 32 j (by decide)) (funext fun j => o 33 j (by decide)) _
    have ea : aft (tlN (rd1 N q) 0 q) (rd1 N q 34 0 + 1) = max (aft N (N 34 0)) (nd N q) := by rw [tl_aft1, if_neg (by decide), if_pos rfl, rd1_nd, o 34 0 (by decide), ha1]
    refine ⟨tl_jQ (fun _ _ => by rw [h9]; simp [un, hv]) j1, tl_jR _ _ j2, tl_jW (by omega) (fun _ => by rw [o 6 0 (by decide)]; exact hq) ?_ ?_ j3, tl_jK0 _ _ j4⟩
    · rw [ea, o 34 0 (by decide), o 6 0 (by decide)]; omega
    · rw [ea, o 29 0 (by decide)]; omega
  · exact hj
theorem un_b {N : Nat → Nat → Nat} {k j v : Nat} (hb : ∀ k j, N k j < 1073741824) (hv : v < 1073741824) : ∀ a b, un N k j v a b < 1073741824 := by
  intro a b
  rw [un_apply]
  split
  · exact hv
  · exact hb a b
theorem rdT_b {N : Nat → Nat → Nat} {q : Nat} (hb : ∀ k j, N k j < 1073741824) (hq : q < 60) (hw : N 34 0 < 572) : ∀ k j, rdT N q k j < 1073741824 := by
  have h1 : ∀ k j, rd1 N q k j < 1073741824 := by
    unfold rd1
    split
    · split
      · exact un_b (un_b (un_b (un_b hb (by omega)) (hb _ _)) (hb _ _)) (by omega)
      · exact un_b hb (by omega)
    · split
      · split
        · exact un_b (un_b (un_b (un_b (un_b hb (by omega)) (hb _ _)) (hb _ _)) (hb _ _)) (by omega)
        · exact un_b hb (by omega)
      · split
        · exact un_b hb (by omega)
        · refine un_b (un_b hb (by split <;> omega)) ?_
          split
          · omega
          · exact hb _ _
  unfold rdT
  split
  · unfold tlN
    have : rd1 N q 34 0 = N 34 0 := rd1_o (by decide) (by decide) (by decide) (by decide) (by decide) 0
    exact un_b (un_b (un_b h1 (by omega)) (by omega)) (by omega)
  · exact h1
theorem rdT_o {N : Nat → Nat → Nat} {q k : Nat} (hk : ¬ k = 9 ∧ ¬ k = 21 ∧ ¬ k = 22 ∧ ¬ k = 24 ∧ ¬ k = 25 ∧ ¬ k = 32 ∧ ¬ k = 33 ∧ ¬ k = 34) (j : Nat) : rdT N q k j = N k j := by
  unfold rdT
  split
  · rw [tl_o hk.2.2.2.2.2.1 hk.2.2.2.2.2.2.1 hk.2.2.2.2.2.2.2, rd1_o hk.1 hk.2.1 hk.2.2.1 hk.2.2.2.1 hk.2.2.2.2.1]
  · exact rd1_o hk.1 hk.2.1 hk.2.2.1 hk.2.2.2.1 hk.2.2.2.2.1 j
theorem rdT_9 (N : Nat → Nat → Nat) (q p : Nat) : rdT N q 9 p = rd1 N q 9 p := by
  unfold rdT
  split
  · rw [tl_o (by decide) (by decide) (by decide)]
  · rfl
theorem jW_240 {k : Nat} {N : Nat → Nat → Nat} {q : Nat} (hq : q < N 6 0) (h0 : N 9 q = 0) (h : jI k N) : N 34 0 < 240 ∧ aft N (N 34 0) < 1073741824 ∧ N 35 0 ≤ N 34 0 := by
  obtain ⟨jq, jr, ⟨w1, w2, w3, w4, w5, w6⟩, jk, jk2⟩ := h
  have n60 := jk.1
  have hc9 : cnt (fun p => !decide (N 9 p = 0)) (N 6 0) + 1 = cnt (fun p => !decide (un N 9 q 1 9 p = 0)) (N 6 0) := by
    refine (cnt_up _ hq ?_ ?_ (fun i hi => ?_)).symm
    · simp [h0]
    · simp [un]
    · simp [un, hi]
  have hc := cnt_le (fun p => !decide (un N 9 q 1 9 p = 0)) (N 6 0)
  have hc16 := cnt_le (fun p => decide (0 < N 16 p)) (N 6 0)
  exact ⟨by omega, by omega, w2⟩
theorem co_rd {ad : Nat → Nat → Nat} {M : zM} {D : Nat → Nat → Nat → Int32} {E : Nat → Nat → Nat → Option Nat} {qa : Nat → Nat} {c : Nat} {N : Nat → Nat → Nat} {Z : Nat → Nat → Int32} {k : Nat} (hb : ∀ k j, N k j < 1073741824) (hc : cR ad M D E qa c N Z) (hj : jI k N) {post : zM → Prop} {q : Nat} (hq : q < N 6 0) (hs : 0 < N 16 q) (h9 : N 9 q = 0) (h15 : N 15 q = 0) (hnd : nd N q ≤ N 29 0) (K : ∀ M' D', cR ad M' D' E qa c (rdT N q) (rdZ N Z q) → jI k (rdT N q) → D' 3 q 9 = nI (rd1 N q 9 q) → post M') : w_C_read M (ad 1 0) (ad 3 q) (ad 0 q) (ad 2 0) post := by
  obtain ⟨h240, hafb, h35⟩ := jW_240 hq h9 hj
  obtain ⟨a1, a2, a3, a4, a5, a6, a7, a8, a9, a10⟩ := hj.1 q hq
  exact co_read hb hc hq hj.2.2.2.1.1 hs h9 a1 (fun z => z.elim a9 a8) (by omega) h240 h35 hafb (fun M' D' h1 h2 => K M' D' h1 (rd_J hq hs h9 h15 hnd hj) h2)
theorem op_reply (k ax am : Nat) (M1 M2 : zM) (hJ : zJ k ax am M1 M2) (y1 : Int32) (hk : k < 512) : w_X_reply M1 ax y1 (fun v M1' => w_Y_reply M2 am y1 (fun v' M2' => v = v' ∧ zJ (k + 1) ax am M1' M2')) := by
  have hJ0 := hJ
  obtain ⟨ad, ar, D, E, qa, c, N, Z, rfl, hy, hcR, hjI⟩ := hJ
  have hcR' := hcR
  have hjI' := hjI
  obtain ⟨hX, hS, hO, hK, hQ, hA, hT, hF, hL, hE⟩ := hcR
  obtain ⟨jq, jr, ⟨w1, w2, w3, w4, w5, w6⟩, jk, jk2⟩ := hjI
  have n60 := jk.1
  unfold w_X_reply
  refine ⟨hX.T hX.v8, ?_⟩
  rcases n_ix y1 (n := N 6 0) (by omega) with hx | ⟨q, hq, rfl⟩
  · refine c_reqAt0 hX hS.1.1 hx (n_yesO rfl ?_)
    unfold w_Y_reply
    rw [hy.sc 6 rfl]
    exact ⟨hy.T, y_wout (n := N 6 0) rfl hx (by omega) (n_yes rfl ⟨rfl, zJ_skip hJ0 hk⟩)⟩
  have hin : vp_in (nI q) 60 := (n_in (by omega) (by omega)).mpr (by omega)
  have hV : cV N 3 q := by simp [cV]; exact hq
  have yno : ¬ N 15 q = 2 → w_Y_reply M2 am (nI q) (fun v' M2' => (-1 : Int32) = v' ∧ zJ (k + 1) (ad 8 0) am M1 M2') := by
    intro h15
    unfold w_Y_reply
    rw [hy.sc 6 rfl]
    refine ⟨hy.T, y_win (n := N 6 0) rfl hq (by omega) (n_not (by decide) ⟨hy.T, y_get hy 15 20 60 rfl rfl ⟨hin, ?_⟩⟩)⟩
    rw [n_cl (by omega), hy.rn 15 q rfl rfl (by decide), l2, n_eq (hy.b _ _) (by omega)]
    exact n_not h15 ⟨rfl, zJ_skip hJ0 hk⟩
  refine c_reqAt hX hS.1.1 (by omega) hq (hE q hq).1 (n_noO rfl ⟨hX.T hV, ?_⟩)
  rw [hX.R hV, (hE q hq).2.1]
  obtain ⟨a1, a2, a3, a4, a5, a6, a7, a8⟩ := jq q hq
  rcases Nat.eq_zero_or_pos (N 16 q) with h16 | h16
  · rw [if_pos h16]
    exact n_yesO rfl (yno (fun z => by have := (a6 (Or.inl z)).1; omega))
  · rw [if_neg (by omega)]
    have hV0 : cV N 0 q := by simp [cV]; exact ⟨hq, h16⟩
    refine n_noO rfl ⟨ad 0 q, rfl, hX.T hV0, ?_⟩
    rw [hX.I hV0, (hA q hq h16).2.1]
    by_cases h15 : N 15 q = 2
    · rw [if_pos h15]
      obtain ⟨-, h9⟩ := a6 (Or.inl h15)
      obtain ⟨h240, hafb, -⟩ := jW_240 hq h9 hjI'
      refine n_not (by decide) ⟨ad 0 q, rfl, hX.T hV0, c_setI hX hV0 7 rfl (fun M1 hX1 => ⟨hX1.T hX1.v8, ?_⟩)⟩
      have e8 : D 0 q 8 = 0 := by rw [(hA q hq h16).2.2.1, if_neg (by omega)]
      rw [hX1.R hV, (hE q hq).2.1, if_neg (by omega)]
      refine ⟨ad 0 q, rfl, c_ref hX1 hX1.v8 hX1.e81 ⟨hX1.T hX1.v1, c_must hX1 hV0 (a := nd N q) (b := N 29 0) (by simp [u3]; exact (hA q hq h16).1.2) hS.2.2.1.1 (by have := nd_b hy q; omega) (hy.b _ _) ?_⟩⟩
      have ygo : ∀ post : Int32 → zM → Prop, (nd N q ≤ N 29 0 → ∀ M', yR am ar M' (rdT (un N 15 q 0) q) (rdZ (un N 15 q 0) Z q) → post (nI (rd1 (un N 15 q 0) q 9 q)) M') → (¬ nd N q ≤ N 29 0 → ∀ M', yR am ar M' (un N 15 q 3) Z → post 0 M') → w_Y_reply M2 am (nI q) post := by
        intro post K1 K2
        unfold w_Y_reply
        rw [hy.sc 6 rfl]
        refine ⟨hy.T, y_win (n := N 6 0) rfl hq (by omega) (n_not (by decide) ⟨hy.T, y_get hy 15 20 60 rfl rfl ⟨hin, ?_⟩⟩)⟩
        rw [n_cl (by omega), hy.rn 15 q rfl rfl (by decide), l2, n_eq (hy.b _ _) (by omega)]
        refine n_yes h15 (y_need hy (by omega) ⟨hy.T, ?_⟩)
        rw [hy.sc 29 rfl, n_le (by have := nd_b hy q; omega) (hy.b _ _)]
        refine n_ite (fun hc => yo_read hy (by omega) a1 (by omega) (fun M' hy' => K1 hc M' hy')) (fun hc => y_get hy 15 20 60 rfl rfl ⟨hin, y_putN hy 15 q 3 rfl rfl (by decide) rfl (by omega) (fun M' hy' => K2 hc M' hy')⟩)
      by_cases hnd : N 29 0 < nd N q
      · rw [show decide (N 29 0 < nd N q) = true by simp [hnd]]
        refine n_not (by decide) ⟨hX1.T hV, ?_⟩
        rw [hX1.R hV, (hE q hq).2.1, if_neg (by omega)]
        refine ⟨ad 0 q, rfl, hX1.T hV0, c_setI hX1 hV0 8 rfl (fun M1 hX2 => ygo _ (fun z => by omega) (fun _ M2 hy2 => ⟨rfl, ad, ar, _, E, qa, c, _, Z, rfl, hy2, rd15 rfl rfl (by omega) (by omega) hcR' hX2, jI_up (jI_15 (by omega) (by omega) (fun _ => ⟨h16, h9⟩) hq hjI')⟩))⟩
      · rw [show decide (N 29 0 < nd N q) = false by simp; omega]
        refine n_yes rfl ⟨hX1.T hX1.v8, hX1.T hV, c_ref hX1 hX1.v8 hX1.e82 ?_⟩
        rw [hX1.R hV, (hE q hq).2.1, if_neg (by omega)]
        have e1 : u3 (u3 D 0 q 7 0) 0 q 8 0 = u3 D 0 q 7 0 := u3_self (by simp [u3]; exact e8)
        have hc1 : cR ad M1 (u3 D 0 q 7 0) E qa c (un N 15 q 0) Z := by
          have := rd15 (M' := M1) (q := q) (v := 0) (x := 0) (y := 0) rfl rfl (by omega) (by omega) hcR' (by rw [e1]; exact hX1)
          rw [e1] at this; exact this
        refine ⟨ad 0 q, rfl, c_ref hX1 hX1.v8 hX1.e81 ⟨hX1.T hX1.v1, ?_⟩⟩
        refine co_rd (k := k) (q := q) (un_b hy.b30 (by omega)) hc1 (jI_15 (by omega) (by omega) (fun z => by omega) hq hjI') (by simp [un]; exact hq) (by simp [un]; exact h16) (by simp [un]; exact h9) (by simp [un]) (by rw [nd_un (by decide)]; simp [un]; omega) (fun M1 D' hc2 hj2 h39 => ?_)
        have hV2 : cV (rdT (un N 15 q 0) q) 3 q := by simp [cV]; rw [rdT_o (by decide)]; simp [un]; exact hq
        rw [hc2.1.I hV2, h39]
        exact ⟨hc2.1.T hV2, ygo _ (fun _ M2 hy2 => ⟨rfl, ad, ar, D', E, qa, c, _, _, rfl, hy2, hc2, jI_up hj2⟩) (fun z => by omega)⟩
    · rw [if_neg h15]
      exact n_yes rfl (yno h15)
