theorem arr15 {ad : Nat → Nat → Nat} {M M' : zM} {D : Nat → Nat → Nat → Int32} {E : Nat → Nat → Nat → Option Nat} {qa : Nat → Nat} {c q : Nat} {N : Nat → Nat → Nat} {Z : Nat → Nat → Int32} (h16 : N 16 q = 0) (h : cR ad M D E qa c N Z) (hX : zX (cV N) ad M' (u3 D 3 q 8 0) E) : cR ad M' (u3 D 3 q 8 0) E qa c (un N 15 q 0) Z := by
  obtain ⟨-, hS, hO, hK, hQ, hA, hT, hF, hL, hE⟩ := h
  refine ⟨zX_cV (by decide) (by decide) hX, ?_, rO_un (by decide) (by decide) (by decide) (rO_u3 (by decide) hO), rK_un (by decide) (by decide) (by decide) (by decide) (rK_u3 (by decide) hK), ?_, rA_u3 (by decide) (by decide) ?_, rT_un (by decide) (by decide) (by decide) (by decide) (by decide) (by decide) (by decide) (rT_u3 (by omega) (by omega) (by omega) (by omega) hT), rF_un (by decide) (by decide) (by decide) (by decide) (rF_u3 (by decide) (by decide) (by decide) hF), rL_un (by decide) (by decide) (by decide) (rL_u3 (by omega) hL), rE_un (by decide) (by decide) hE⟩
  · simp [rS, un, u3] at hS ⊢; exact hS
  · intro p hp
    have hp : p < N 6 0 := by simpa [un] using hp
    have := hQ p hp
    by_cases e : p = q
    · subst e
      simp [un, u3]
      exact ⟨this.1, this.2.2⟩
    · simp [un, u3, e]
      exact this
  · intro p hp hs
    have hp : p < N 6 0 := by simpa [un] using hp
    have hs : 0 < N 16 p := by simpa [un] using hs
    have e : ¬ p = q := fun y => by rw [y] at hs; omega
    obtain ⟨a, b, c, d, f, g⟩ := hA p hp hs
    rw [ost_un (by decide) (by decide) (by decide) (by decide) (by decide), nd_un (by decide)]
    simp [un, e]
    exact ⟨a, b, c, d, rG_un (by decide) f, g⟩
theorem pI_of {N : Nat → Nat → Nat} {k q : Nat} (hq : q < N 6 0) (h16 : N 16 q = 0) (h9 : N 9 q = 0) (h : jI k N) : pI N q 0 (cnt (fun q => decide (0 < N 16 q)) (N 6 0)) := by
  obtain ⟨jq, ⟨r1, r2, r3, r4⟩, ⟨w1, w2, w3, w4, w5, w6⟩, ⟨j1, j2, j3, j4, j5⟩, jk2⟩ := h
  have c1 : cnt (fun p => decide (0 < N 16 p) || decide (p = q)) (N 6 0) = cnt (fun p => decide (0 < N 16 p)) (N 6 0) + 1 := by
    refine cnt_up _ hq ?_ ?_ (fun i hi => ?_)
    · simp [h16]
    · simp
    · simp [hi]
  have c2 := cnt_le (fun p => decide (0 < N 16 p) || decide (p = q)) (N 6 0)
  have c9 := cnt_le (fun p => !decide (N 9 p = 0)) (N 6 0)
  have hz := r3 q (Or.inr h16)
  refine ⟨⟨hq, j1, h16, by omega⟩, fun i hi h2 => ⟨(jq q hq).2.2.2.2.2.2.2.2.2.2.1 h9 i hi h2, by have := (w1 i hi).2 h2; omega⟩, ⟨w2, by omega, by omega⟩, ⟨by omega, by omega, by omega⟩, r1, r2, fun f _ hf => ?_, fun p hp _ => r3 p hp⟩
  rcases (show f = 0 ∨ f = 1 ∨ f = 2 by omega) with rfl | rfl | rfl
  · exact hz.1
  · exact hz.2.1
  · exact hz.2.2
theorem dec_w {N Nw : Nat → Nat → Nat} {Z Zw : Nat → Nat → Int32} {q st k : Nat} (hb : ∀ k j, N k j < 1073741824) (hk : k < 512) (hq : q < N 6 0) (hj : jI k N) (hd : dec N Z q st Nw Zw) : jI (k + 1) Nw ∧ (∀ k j, Nw k j < 1073741824) ∧ (Nw 6 0 = N 6 0 ∧ Nw 16 q = N 16 q ∧ Nw 15 q = N 15 q ∧ Nw 9 q = N 9 q ∧ Nw 7 q = N 7 q ∧ Nw 36 0 = N 36 0 ∧ Nw 38 0 = N 38 0 ∧ Nw 39 0 = N 39 0) ∧ (st = 200 ∨ st = 304 ∨ st = 404 ∨ st = 412) ∧ (st = 304 → N 7 q = 0) ∧ (st = 404 → N 7 q = 0) ∧ Nw 2 (N 8 q) ≤ 1000 ∧ (N 7 q = 0 → st < 400 → 0 < Nw 3 (N 8 q)) := by
  obtain ⟨a1, a2, a3, a4, a5, a6, a7, a8, a9, a10, a11, a12, a13, a14⟩ := hj.1 q hq
  obtain ⟨b1, b2, b3, b4⟩ := hj.2.2.2.2 (N 8 q) a1
  rcases hd with ⟨d1, d2, rfl, rfl, rfl⟩ | ⟨d1, d2, d3, rfl, rfl, rfl⟩ | ⟨d1, d2, d3, rfl, rfl, rfl⟩ | ⟨d1, d2, rfl, rfl, rfl⟩ | ⟨d1, d2, d3, rfl, rfl, rfl⟩
  · exact ⟨jI_up hj, hb, ⟨rfl, rfl, rfl, rfl, rfl, rfl, rfl, rfl⟩, by simp, by simp, fun _ => d1, b3, fun _ z => absurd z (by decide)⟩
  · exact ⟨jI_up hj, hb, ⟨rfl, rfl, rfl, rfl, rfl, rfl, rfl, rfl⟩, by simp, fun _ => d1, by simp, b3, fun _ _ => b2 (by omega)⟩
  · exact ⟨jI_up hj, hb, ⟨rfl, rfl, rfl, rfl, rfl, rfl, rfl, rfl⟩, by simp, by simp, by simp, b3, fun _ _ => b2 (by omega)⟩
  · have b4' := hj.2.2.2.1.2.1
    refine ⟨wr_jI a13 hj, un_b (un_b (un_b (un_b hb (by omega)) (by omega)) (by omega)) (by omega), ⟨by simp [wrN, un], by simp [wrN, un], by simp [wrN, un], by simp [wrN, un], by simp [wrN, un], by simp [wrN, un], by simp [wrN, un], by simp [wrN, un]⟩, by simp, by simp, by simp, by simp [wrN, un]; exact a13, fun z => absurd z d1⟩
  · exact ⟨jI_up hj, hb, ⟨rfl, rfl, rfl, rfl, rfl, rfl, rfl, rfl⟩, by simp, by simp, by simp, b3, fun _ z => absurd z (by decide)⟩
theorem ar_end {am : Nat} {ar : Nat → Nat} {M2 : zM} {N Nw Nm : Nat → Nat → Nat} {Z Zw Zm : Nat → Nat → Int32} {k ax q st n : Nat} (hk : k < 512) (hy : yR am ar M2 N Z) (hj : jI k N) (hq : q < N 6 0) (h16 : N 16 q = 0) (h9 : N 9 q = 0) (hok : N 36 0 = 1 → ¬ N 38 0 ≤ q) (hd : dec N Z q st Nw Zw) (hn : (400 ≤ st ∧ n = 0) ∨ (st = 200 ∧ ¬ N 7 q = 0 ∧ n = 1) ∨ (st = 304 ∧ N 7 q = 0 ∧ n = 2) ∨ (st = 200 ∧ N 7 q = 0 ∧ n = 3)) (hFS : FS q (av (a17 Nw q (N 8 q)) (uz Zw 19 q (Zw 1 (N 8 q))) (N 8 q)) n 0 (a17 Nw q (N 8 q)) (uz Zw 19 q (Zw 1 (N 8 q))) Nm Zm) {ad' : Nat → Nat → Nat} {M' : zM} {D' : Nat → Nat → Nat → Int32} {E' : Nat → Nat → Nat → Option Nat} {qa' : Nat → Nat} {c' : Nat} (h8 : ad' 8 0 = ax) (hc : cR ad' M' D' E' qa' c' (arN Nm q st (max (N 39 0) (q + 1))) Zm) : w_Y_arrive_49 (fun v' M2' => nI st = v' ∧ zJ (k + 1) ax am M' M2') M2 am (nI q) := by
  obtain ⟨jw, bw, ⟨e6, e16, e15, e9, e7, e36, e38, e39⟩, hst4, h304, h404, h2, h3⟩ := dec_w hy.b30 hk hq hj hd
  have n60 := hj.2.2.2.1.1
  have a1 := (hj.1 q hq).1
  have j17 : jI (k + 1) (a17 Nw q (N 8 q)) := jI_17 (by rw [e16]; exact h16) jw
  have f : ∀ k j, ¬ k = 17 → ¬ k = 18 → a17 Nw q (N 8 q) k j = Nw k j := fun k j h1 h2 => by simp [a17, un, h1, h2]
  have p := pI_of (N := a17 Nw q (N 8 q)) (q := q) (by rw [f 6 0 (by decide) (by decide), e6]; exact hq) (by rw [f 16 q (by decide) (by decide), e16]; exact h16) (by rw [f 9 q (by decide) (by decide), e9]; exact h9) j17
  have hb : ∀ k j, a17 Nw q (N 8 q) k j < 1073741824 := un_b (un_b bw (bw _ _)) (bw _ _)
  obtain ⟨bm, pm, km⟩ := FS_b hFS (by omega) hb p
  have m39 : Nm 39 0 = N 39 0 := by rw [km.1 39 rfl, f 39 0 (by decide) (by decide), e39]
  refine yo_49 (Nm := Nm) (Zm := Zm) hy (by omega) a1 (by have := hj.2.2.2.1.2.1; omega) hd p ?_ (fun M'' hy'' => ?_)
  · rw [e7]
    rcases hn with ⟨s1, rfl⟩ | ⟨s1, s2, rfl⟩ | ⟨s1, s2, rfl⟩ | ⟨s1, s2, rfl⟩
    · exact Or.inl ⟨s1, by omega, hFS⟩
    · exact Or.inr (Or.inl ⟨s1, s2, hFS⟩)
    · exact Or.inr (Or.inr (Or.inl ⟨s1, s2, hFS⟩))
    · exact Or.inr (Or.inr (Or.inr ⟨s1, s2, hFS⟩))
  · rw [m39] at hy''
    refine ⟨rfl, ad', ar, D', E', qa', c', _, Zm, h8.symm, hy'', hc, ?_⟩
    refine ar_J (N := a17 Nw q (N 8 q)) (m := 0 + n) (by rw [f 6 0 (by decide) (by decide), e6]; exact hq) (by rw [f 16 q (by decide) (by decide), e16]; exact h16) (by rw [f 9 q (by decide) (by decide), e9]; exact h9) hst4 (fun z => ?_) (fun z => ?_) (fun z => ?_) ?_ (fun z1 z2 => ?_) ?_ km pm j17
    · rw [f 7 q (by decide) (by decide), e7]; exact h304 z
    · rw [f 7 q (by decide) (by decide), e7]; exact h404 z
    · rw [f 36 0 (by decide) (by decide), e36] at z
      rw [f 38 0 (by decide) (by decide), e38]; exact hok z
    · simp [a17, un]; exact h2
    · rw [f 7 q (by decide) (by decide), e7] at z1
      simp [a17, un]; exact h3 z1 z2
    · rw [f 39 0 (by decide) (by decide), e39]
theorem op_arrive (k ax am : Nat) (M1 M2 : zM) (hJ : zJ k ax am M1 M2) (y1 : Int32) (hk : k < 512) : w_X_arrive M1 ax y1 (fun v M1' => w_Y_arrive M2 am y1 (fun v' M2' => v = v' ∧ zJ (k + 1) ax am M1' M2')) := by
  have hJ0 := hJ
  obtain ⟨ad, ar, D, E, qa, c, N, Z, rfl, hy, hcR, hjI⟩ := hJ
  have n60 := hjI.2.2.2.1.1
  have hX := hcR.1
  have hS := hcR.2.1
  have hQ := hcR.2.2.2.2.1
  have hE := hcR.2.2.2.2.2.2.2.2.2
  unfold w_X_arrive
  refine ⟨hX.T hX.v8, ?_⟩
  rcases n_ix y1 (n := N 6 0) (by omega) with hx | ⟨q, hq, rfl⟩
  · refine c_reqAt0 hX hS.1.1 hx (n_yesO rfl ?_)
    unfold w_Y_arrive w_Y_arrive_23
    rw [hy.sc 6 rfl]
    exact ⟨hy.T, y_wout (n := N 6 0) rfl hx (by omega) (n_yes rfl ⟨rfl, zJ_skip hJ0 hk⟩)⟩
  have hin : vp_in (nI q) 60 := (n_in (by omega) (by omega)).mpr (by omega)
  have hV : cV N 3 q := by simp [cV]; exact hq
  obtain ⟨a1, a2, a3, a4, a5, a6, a7, a8⟩ := hjI.1 q hq
  refine c_reqAt hX hS.1.1 (by omega) hq (hE q hq).1 (n_noO rfl ⟨hX.T hV, ?_⟩)
  rw [hX.I hV, (hQ q hq).2.1]
  by_cases h15 : N 15 q = 1
  · rw [if_pos h15]
    obtain ⟨h16, h9⟩ := a5 h15
    refine n_not (by decide) (c_setI hX hV 8 rfl (fun M1 hX1 => ⟨hX1.T hX1.v8, c_ref hX1 hX1.v8 hX1.e80 ⟨hX1.T hX1.v5, ?_⟩⟩))
    have hca := arr15 h16 hcR hX1
    have hja : jI k (un N 15 q 0) := jI_15 (by omega) (by omega) (fun z => by omega) hq hjI
    have yok : (N 36 0 = 0 ∨ q < N 38 0) → ∀ post : Int32 → zM → Prop, (∀ M', yR am ar M' (un N 15 q 0) Z → w_Y_arrive_49 post M' am (nI q)) → w_Y_arrive M2 am (nI q) post := by
      intro hok post h
      unfold w_Y_arrive
      rw [hy.sc 6 rfl, n_cl (by omega)]
      refine ⟨hy.T, y_win (n := N 6 0) rfl hq (by omega) (n_not (by decide) ⟨hy.T, y_get hy 15 20 60 rfl rfl ⟨hin, ?_⟩⟩)⟩
      rw [hy.rn 15 q rfl rfl (by decide), l1, n_eq (hy.b _ _) (by omega)]
      refine n_yes h15 (y_get hy 15 20 60 rfl rfl ⟨hin, y_putN hy 15 q 0 rfl rfl (by decide) rfl (by omega) (fun M' hy' => ?_)⟩)
      rw [show zI M' am 36 = nI (N 36 0) from (hy'.sc 36 rfl).trans (by simp [un]), show zI M' am 38 = nI (N 38 0) from (hy'.sc 38 rfl).trans (by simp [un]), l0, n_eq (hy.b _ _) (by omega), n_lt (by omega) (hy.b _ _)]
      exact n_ite (fun _ => h M' hy') (fun h36 => n_ite (fun _ => h M' hy') (fun h38 => by omega))
    have yrf : ¬ (N 36 0 = 0 ∨ q < N 38 0) → ∀ post : Int32 → zM → Prop, (∀ M', yR am ar M' (un N 15 q 0) Z → post 0 M') → w_Y_arrive M2 am (nI q) post := by
      intro hok post h
      unfold w_Y_arrive
      rw [hy.sc 6 rfl, n_cl (by omega)]
      refine ⟨hy.T, y_win (n := N 6 0) rfl hq (by omega) (n_not (by decide) ⟨hy.T, y_get hy 15 20 60 rfl rfl ⟨hin, ?_⟩⟩)⟩
      rw [hy.rn 15 q rfl rfl (by decide), l1, n_eq (hy.b _ _) (by omega)]
      refine n_yes h15 (y_get hy 15 20 60 rfl rfl ⟨hin, y_putN hy 15 q 0 rfl rfl (by decide) rfl (by omega) (fun M' hy' => ?_)⟩)
      rw [show zI M' am 36 = nI (N 36 0) from (hy'.sc 36 rfl).trans (by simp [un]), show zI M' am 38 = nI (N 38 0) from (hy'.sc 38 rfl).trans (by simp [un]), l0, n_eq (hy.b _ _) (by omega), n_lt (by omega) (hy.b _ _)]
      exact n_ite (fun z => absurd (Or.inl z) hok) (fun h36 => n_ite (fun z => absurd (Or.inr z) hok) (fun h38 => h M' hy'))
    have f : ∀ k j, ¬ (k = 15 ∧ j = q) → un N 15 q 0 k j = N k j := fun k j h => by rw [un_apply, if_neg h]
    have e15 : un N 15 q 0 15 q = 0 := by simp [un]
    have hba : ∀ k j, un N 15 q 0 k j < 1073741824 := un_b hy.b30 (by omega)
    have f36 := f 36 0 (by omega)
    have f38 := f 38 0 (by omega)
    have f6 := f 6 0 (by omega)
    have f16 := f 16 q (by omega)
    have f9 := f 9 q (by omega)
    have f8 := f 8 q (by omega)
    rw [← f6] at hq n60
    rw [← f16] at h16
    rw [← f9] at h9
    rw [← f8] at a1
    rw [← f36, ← f38] at yok yrf
    have hX1 := hca.1
    clear hX hS hQ hE a2 a3 a4 a5 a6 a7 a8 f f36 f38 f6 f16 f9 f8 h15 hjI hcR hV
    generalize un N 15 q 0 = Na at *
    generalize u3 D 3 q 8 0 = Da at *
    have hV : cV Na 3 q := by simp [cV]; exact hq
    have hVr := hX1.v4 a1
    obtain ⟨-, hS, hO, hK, hQ, hA, hT, hF, hL, hE⟩ := id hca
    obtain ⟨⟨q0, q1, q2, q3, q4, q5, q6⟩, q8, q9, q10, q7⟩ := hQ q hq
    have b := fun k j => (show Na k j < 2 ^ 31 by have := hba k j; omega)
    have fin : (Na 36 0 = 0 ∨ q < Na 38 0) → ∀ (st n : Nat) (Nw : Nat → Nat → Nat) (Zw : Nat → Nat → Int32) (Nm : Nat → Nat → Nat) (Zm : Nat → Nat → Int32), dec Na Z q st Nw Zw → ((400 ≤ st ∧ n = 0) ∨ (st = 200 ∧ ¬ Na 7 q = 0 ∧ n = 1) ∨ (st = 304 ∧ Na 7 q = 0 ∧ n = 2) ∨ (st = 200 ∧ Na 7 q = 0 ∧ n = 3)) → FS q (av (a17 Nw q (Na 8 q)) (uz Zw 19 q (Zw 1 (Na 8 q))) (Na 8 q)) n 0 (a17 Nw q (Na 8 q)) (uz Zw 19 q (Zw 1 (Na 8 q))) Nm Zm → ∀ ad' M' D' E' qa' c', ad' 8 0 = ad 8 0 → cR ad' M' D' E' qa' c' (arN Nm q st (max (Na 39 0) (q + 1))) Zm → w_Y_arrive M2 am (nI q) (fun v' M2' => nI st = v' ∧ zJ (k + 1) (ad 8 0) am M' M2') := fun hok st n Nw Zw Nm Zm hd hn hFS ad' M' D' E' qa' c' h8 hc => yok hok _ (fun M'' hy'' => ar_end hk hy'' hja hq h16 h9 (fun z => by omega) hd hn hFS h8 hc)
    have t33 : (Na 36 0 = 0 ∨ q < Na 38 0) → w_S_takeRequest_33 (fun v M1' => w_Y_arrive M2 am (nI q) (fun v' M2' => v = v' ∧ zJ (k + 1) (ad 8 0) am M1' M2')) M1 (ad 5 0) (ad 3 q) (ad 4 (Na 8 q)) := by
      intro hok
      have fin := fin hok
      unfold w_S_takeRequest_33
      rw [hX1.I hX1.v5, hX1.I hV, hS.2.1.2.1, q0, l1, n_add, n_max (b _ _) (by omega)]
      refine ⟨hX1.T hX1.v5, hX1.T hV, c_setI hX1 hX1.v5 3 rfl (fun M3 hX3 => ?_)⟩
      rw [show zI M3 (ad 3 q) 2 = nI (Na 7 q) from (hX3.I hV 2).trans q2, l0, n_eq (b _ _) (by omega)]
      obtain ⟨o0, o1, o2, o3⟩ := hO (Na 8 q) a1
      have r0 : zI M3 (ad 4 (Na 8 q)) 0 = nI (Na 0 (Na 8 q)) := (hX3.I hVr 0).trans o0
      have r1 : zI M3 (ad 4 (Na 8 q)) 1 = nI (Na 3 (Na 8 q)) := (hX3.I hVr 1).trans o1
      have s5 : zI M3 (ad 3 q) 5 = nI (Na 12 q) := (hX3.I hV 5).trans q5
      -- nothing written
      have go : ∀ z : Int32, cR ad M1 Da E qa c (a17 Na q (Na 8 q)) (uz Z 19 q z) := fun z => cR_17 h16 hca
      have hXf : zX (cV (a17 Na q (Na 8 q))) ad M3 (u3 Da 5 0 3 (nI (max (Na 39 0) (q + 1)))) E := by unfold a17; exact zX_cV (by decide) (by decide) (zX_cV (by decide) (by decide) hX3)
      have g : ∀ k j, ¬ k = 17 → ¬ k = 18 → a17 Na q (Na 8 q) k j = Na k j := fun k j h1 h2 => by simp [a17, un, h1, h2]
      have pf := pI_of (N := a17 Na q (Na 8 q)) (q := q) (by rw [g 6 0 (by decide) (by decide)]; exact hq) (by rw [g 16 q (by decide) (by decide)]; exact h16) (by rw [g 9 q (by decide) (by decide)]; exact h9) (jI_17 h16 hja)
      have bf : ∀ k j, a17 Na q (Na 8 q) k j < 1073741824 := un_b (un_b hba (hba _ _)) (hba _ _)
      have ho : ∀ k i j, ¬ (k = 5 ∧ i = 0 ∧ j = 3) → u3 Da 5 0 3 (nI (max (Na 39 0) (q + 1))) k i j = Da k i j := fun k i j h => u3_n _ _ h
      have lit : ∀ st, 400 ≤ st → dec Na Z q st Na Z → ∀ qn, zT M3 qn = none → ∀ M23, M23 = znw M3 qn (0, 10) → w_A_init M23 qn (nI st) (fun M26 => w_S_takeRequest_72 (fun v M1' => w_Y_arrive M2 am (nI q) (fun v' M2' => v = v' ∧ zJ (k + 1) (ad 8 0) am M1' M2')) M26 (ad 5 0) (ad 3 q) (ad 4 (Na 8 q)) (some qn)) := by
        intro st hst hd qn hqn M23 hM
        subst hM
        exact co_A0 (go (Z 1 (Na 8 q))) hXf ho (u3_s _ _ _ _ _) pf (by rw [g 15 q (by decide) (by decide)]; exact e15) hst hqn (fun ad' M' D' E' qa' c' h8 hc => fin st 0 Na Z _ _ hd (Or.inl ⟨hst, rfl⟩) ⟨rfl, rfl⟩ ad' M' D' E' qa' c' h8 hc)
      refine n_ite (fun h7 => ?_) (fun h7 => ?_)
      · unfold w_S_answerGet
        rw [r0, r1, s5, l0, n_eq (b _ _) (by omega), n_eq (b _ _) (b _ _)]
        have get : ∀ (st : Nat) (x3 : Int32), ((st = 304 ∧ x3 = 1) ∨ (st = 200 ∧ x3 = 0)) → dec Na Z q st Na Z → ∀ qn, zT M3 qn = none → w_S_answerGet_52 (fun r15 M16 => w_S_takeRequest_72 (fun v M1' => w_Y_arrive M2 am (nI q) (fun v' M2' => v = v' ∧ zJ (k + 1) (ad 8 0) am M1' M2')) M16 (ad 5 0) (ad 3 q) (ad 4 (Na 8 q)) r15) (znw M3 qn (0, 10)) (ad 5 0) (ad 3 q) (ad 4 (Na 8 q)) x3 qn qn (nI st) := by
          intro st x3 hst hd qn hqn
          refine co_A2 (go (Z 1 (Na 8 q))) hXf ho (u3_s _ _ _ _ _) bf pf (by rw [g 15 q (by decide) (by decide)]; exact e15) (by simp [a17, un]) (by simp [a17, un]) (by simp [uz]) hst a1 hqn (fun ad' M' D' E' qa' c' Nm Zm h8 hFS hc => fin st _ Na Z Nm Zm hd ?_ hFS ad' M' D' E' qa' c' h8 hc)
          rcases hst with ⟨rfl, -⟩ | ⟨rfl, -⟩
          · exact Or.inr (Or.inr (Or.inl ⟨rfl, h7, rfl⟩))
          · exact Or.inr (Or.inr (Or.inr ⟨rfl, h7, rfl⟩))
        refine ⟨hX3.T hVr, n_ite (fun h0 => lit 404 (by omega) (Or.inl ⟨h7, h0, rfl, rfl, rfl⟩)) (fun h0 => ⟨hX3.T hV, n_ite (fun h12 qn hqn M46 hM => ?_) (fun h12 qn hqn M46 hM => ?_)⟩)⟩
        · subst hM
          exact n_not (by decide) (get 304 1 (Or.inl ⟨rfl, rfl⟩) (Or.inr (Or.inl ⟨h7, h0, h12, rfl, rfl, rfl⟩)) qn hqn)
        · subst hM
          exact n_yes rfl (get 200 0 (Or.inr ⟨rfl, rfl⟩) (Or.inr (Or.inr (Or.inl ⟨h7, h0, h12, rfl, rfl, rfl⟩))) qn hqn)
      · unfold w_S_answerPut
        rw [r0, r1, s5, l0, n_eq (b _ _) (by omega), n_eq (b _ _) (by omega), n_eq (b _ _) (b _ _)]
        have put : (Na 12 q = 0 ∨ (¬ Na 0 (Na 8 q) = 0 ∧ Na 3 (Na 8 q) = Na 12 q)) → ∀ x3 : Int32, w_S_answerPut_46 (fun r29 M30 => w_S_takeRequest_72 (fun v M1' => w_Y_arrive M2 am (nI q) (fun v' M2' => v = v' ∧ zJ (k + 1) (ad 8 0) am M1' M2')) M30 (ad 5 0) (ad 3 q) (ad 4 (Na 8 q)) r29) M3 (ad 5 0) (ad 3 q) (ad 4 (Na 8 q)) x3 := by
          intro hh x3
          have hd : dec Na Z q 200 (wrN Na (Na 8 q) (Na 11 q)) (uz Z 1 (Na 8 q) (Z 10 q)) := Or.inr (Or.inr (Or.inr (Or.inl ⟨h7, hh, rfl, rfl, rfl⟩)))
          obtain ⟨jw, bw, ⟨e6, e16, e15', e9, e7, -⟩, -⟩ := dec_w hba hk hq hja hd
          unfold w_S_answerPut_46
          rw [show zI M3 (ad 3 q) 3 = Z 10 q from (hX3.I hV 3).trans q3, show zI M3 (ad 3 q) 4 = nI (Na 11 q) from (hX3.I hV 4).trans q4]
          refine ⟨hX3.T hV, hX3.T hX3.v5, c_write (t := Na 4 0) hX3 a1 (by rw [u3_n _ _ (by omega)]; exact hS.2.1.1) (fun M7 hX7 qn hqn M10 hM => ?_)⟩
          subst hM
          -- the numbers as if the limit's had not been noted yet
          have hv1 := (((((hX1.wI hX1.v5 2 (nI (Na 4 0 + 1))).wI (hX1.v4 a1) 0 1).wI (hX1.v4 a1) 1 (nI (Na 4 0 + 1))).wI (hX1.v4 a1) 2 (Z 10 q)).wI (hX1.v4 a1) 3 (nI (Na 11 q)))
          have hv := wr_rel (r := Na 8 q) (l := Na 11 q) (c := Z 10 q) hca hv1
          have hvf := cR_17 (q := q) (r := Na 8 q) (z := uz Z 1 (Na 8 q) (Z 10 q) 1 (Na 8 q)) (by rw [e16]; exact h16) hv
          have g2 : ∀ k j, ¬ k = 17 → ¬ k = 18 → a17 (wrN Na (Na 8 q) (Na 11 q)) q (Na 8 q) k j = wrN Na (Na 8 q) (Na 11 q) k j := fun k j h1 h2 => by simp [a17, un, h1, h2]
          have pw := pI_of (N := a17 (wrN Na (Na 8 q) (Na 11 q)) q (Na 8 q)) (q := q) (by rw [g2 6 0 (by decide) (by decide), e6]; exact hq) (by rw [g2 16 q (by decide) (by decide), e16]; exact h16) (by rw [g2 9 q (by decide) (by decide), e9]; exact h9) (jI_17 (by rw [e16]; exact h16) jw)
          have ecv : cV (a17 (wrN Na (Na 8 q) (Na 11 q)) q (Na 8 q)) = cV Na := by unfold a17 wrN; rw [cV_un (by decide) (by decide), cV_un (by decide) (by decide), cV_un (by decide) (by decide), cV_un (by decide) (by decide), cV_un (by decide) (by decide), cV_un (by decide) (by decide)]
          have hXw := hX7
          rw [← ecv] at hXw
          refine co_A1 hvf hXw (fun k i j h => ?_) ?_ (un_b (un_b bw (bw _ _)) (bw _ _)) pw (by rw [g2 15 q (by decide) (by decide), e15']; exact e15) (by rw [g2 7 q (by decide) (by decide), e7]; exact h7) a1 hqn (fun ad' M' D' E' qa' c' Nm Zm h8 hFS hc => fin 200 1 _ _ Nm Zm hd (Or.inr (Or.inl ⟨rfl, h7, rfl⟩)) hFS ad' M' D' E' qa' c' h8 hc)
          · unfold wrD
            simp only [u3]
            repeat' split
            all_goals first | rfl | (exfalso; omega)
          · rw [u3_n _ _ (by omega), u3_n _ _ (by omega), u3_n _ _ (by omega), u3_n _ _ (by omega), u3_n _ _ (by omega), u3_s]
        have no : ¬ Na 12 q = 0 → (Na 0 (Na 8 q) = 0 ∨ ¬ Na 3 (Na 8 q) = Na 12 q) → dec Na Z q 412 Na Z := fun h1 h2 => Or.inr (Or.inr (Or.inr (Or.inr ⟨h7, h1, h2, rfl, rfl, rfl⟩)))
        refine ⟨hX3.T hVr, n_ite (fun h0 => ⟨hX3.T hV, n_ite (fun h12 => put (Or.inl h12) _) (fun h12 => n_yes rfl (lit 412 (by omega) (no h12 (Or.inl h0))))⟩) (fun h0 => ⟨hX3.T hV, n_ite (fun h3 => n_ite (fun h12 => put (Or.inl h12) _) (fun h12 => n_not (by decide) (put (Or.inr ⟨h0, h3⟩) _))) (fun h3 => n_ite (fun h12 => put (Or.inl h12) _) (fun h12 => n_yes rfl (lit 412 (by omega) (no h12 (Or.inr h3)))))⟩)⟩
    unfold w_S_takeRequest
    rw [hX1.I hV, q1]
    refine ⟨hX1.T hV, hX1.T hX1.v5, c_resourceAt hX1 a1 (n_noO rfl ⟨hX1.T hX1.v5, ?_⟩)⟩
    rw [hX1.I hX1.v5, hX1.I hX1.v5, hX1.I hV, hS.2.1.2.2.1, hS.2.1.2.2.2, q0, l0, n_eq (b _ _) (by omega), n_lt (by omega) (b _ _)]
    refine n_ite (fun h36 => t33 (Or.inl h36)) (fun h36 => ⟨hX1.T hV, n_ite (fun h38 => t33 (Or.inr h38)) (fun h38 => yrf (fun z => by omega) _ (fun M2' hy2 => ⟨rfl, ad, ar, Da, E, qa, c, Na, Z, rfl, hy2, hca, jI_up hja⟩))⟩)
  · rw [if_neg h15]
    refine n_yes rfl ?_
    unfold w_Y_arrive w_Y_arrive_23
    rw [hy.sc 6 rfl, n_cl (by omega)]
    refine ⟨hy.T, y_win (n := N 6 0) rfl hq (by omega) (n_not (by decide) ⟨hy.T, y_get hy 15 20 60 rfl rfl ⟨hin, ?_⟩⟩)⟩
    rw [hy.rn 15 q rfl rfl (by decide), l1, n_eq (hy.b _ _) (by omega)]
    exact n_not h15 ⟨rfl, zJ_skip hJ0 hk⟩
